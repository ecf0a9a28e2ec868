/-! numbers -/
theorem zy_of32 (x : Int32) : Int32.ofNat x.toUInt32.toNat = x := by
  cases x with
  | ofUInt32 u =>
    cases u with
    | ofBitVec b =>
      show (⟨⟨BitVec.ofNat 32 b.toNat⟩⟩ : Int32) = ⟨⟨b⟩⟩
      rw [BitVec.ofNat_toNat, BitVec.setWidth_eq]
theorem zy_of64 (x : Int64) : Int64.ofNat x.toUInt64.toNat = x := by
  cases x with
  | ofUInt64 u =>
    cases u with
    | ofBitVec b =>
      show (⟨⟨BitVec.ofNat 64 b.toNat⟩⟩ : Int64) = ⟨⟨b⟩⟩
      rw [BitVec.ofNat_toNat, BitVec.setWidth_eq]
theorem zy_i2 (f : Int32 → Int32 → Int32) (a b : Nat) : Int32.ofNat (zx_i2 f a b) = f (Int32.ofNat a) (Int32.ofNat b) := zy_of32 _
theorem zy_l2 (f : Int64 → Int64 → Int64) (a b : Nat) : Int64.ofNat (zx_l2 f a b) = f (Int64.ofNat a) (Int64.ofNat b) := zy_of64 _
theorem zy_bv {a b : BitVec 32} (h : a.toNat = b.toNat) : (⟨⟨a⟩⟩ : Int32) = ⟨⟨b⟩⟩ := by rw [BitVec.eq_of_toNat_eq h]
theorem zy_add (a b : Nat) : Int32.ofNat ((a + b) % 4294967296) = Int32.ofNat a + Int32.ofNat b := by
  show (⟨⟨BitVec.ofNat 32 _⟩⟩ : Int32) = ⟨⟨BitVec.ofNat 32 a + BitVec.ofNat 32 b⟩⟩
  apply zy_bv
  simp [BitVec.toNat_add, BitVec.toNat_ofNat]
theorem zy_sub (a b : Nat) : Int32.ofNat ((a + (4294967296 - b % 4294967296)) % 4294967296) = Int32.ofNat a - Int32.ofNat b := by
  show (⟨⟨BitVec.ofNat 32 _⟩⟩ : Int32) = ⟨⟨BitVec.ofNat 32 a - BitVec.ofNat 32 b⟩⟩
  apply zy_bv
  simp only [BitVec.toNat_sub, BitVec.toNat_ofNat, Nat.reducePow]
  omega
theorem zy_mul (a b : Nat) : Int32.ofNat ((a * b) % 4294967296) = Int32.ofNat a * Int32.ofNat b := by
  show (⟨⟨BitVec.ofNat 32 _⟩⟩ : Int32) = ⟨⟨BitVec.ofNat 32 a * BitVec.ofNat 32 b⟩⟩
  apply zy_bv
  simp [BitVec.toNat_mul, BitVec.toNat_ofNat]
theorem zy_toInt (n : Nat) : (Int32.ofNat n).toInt = zx_s n := by
  rw [Int32.toInt_ofNat']
  unfold zx_s zx_bs
  simp only [Int.bmod, Int.ofNat_eq_natCast, Int32.size]
  split <;> omega
theorem zy_nn {n : Nat} (h : n ≤ 1000000) : (Int32.ofNat n).toNatClampNeg = n ∧ ¬ Int32.ofNat n < 0 := by
  have h1 : (Int32.ofNat n).toInt = (n : Int) := by
    rw [zy_toInt]; unfold zx_s zx_bs; simp only [Int.ofNat_eq_natCast]; omega
  refine ⟨?_, ?_⟩
  · show (Int32.ofNat n).toInt.toNat = n
    rw [h1]; rfl
  · rw [Int32.lt_iff_toInt_lt, h1]
    show ¬ ((n : Int) < 0)
    omega
theorem zy_vin {n N : Nat} (h : n ≤ 1000000) (hn : n < N) : vp_in (Int32.ofNat n) N := by
  obtain ⟨h1, h2⟩ := zy_nn h
  intro q
  rcases q with q | q
  · exact h2 q
  · rw [h1] at q; omega
/-- a comparison, as the rows have it -/
def zy_cp (c : ClassFile.Cond) (x y : Int32) : Prop := match c with
  | .eq => x = y
  | .ne => ¬ x = y
  | .lt => x < y
  | .ge => y ≤ x
  | .gt => y < x
  | .le => x ≤ y
theorem zy_cpI (c : ClassFile.Cond) (x y : Int32) : zy_cp c x y ↔ (match c with
  | .eq => x.toInt = y.toInt
  | .ne => ¬ x.toInt = y.toInt
  | .lt => x.toInt < y.toInt
  | .ge => y.toInt ≤ x.toInt
  | .gt => y.toInt < x.toInt
  | .le => x.toInt ≤ y.toInt) := by
  cases c
  · exact Int32.toInt_inj.symm
  · exact not_congr Int32.toInt_inj.symm
  · exact Int32.lt_iff_toInt_lt
  · exact Int32.le_iff_toInt_le
  · exact Int32.lt_iff_toInt_lt
  · exact Int32.le_iff_toInt_le
theorem zy_cmp (c : ClassFile.Cond) (a b : Nat) : zx_cmp c a b = true ↔ zy_cp c (Int32.ofNat a) (Int32.ofNat b) := by
  rw [zy_cpI, zy_toInt, zy_toInt]
  unfold zx_s
  simp only [Int.ofNat_eq_natCast]
  cases c <;> simp only [zx_cmp, Bool.not_eq_true', Nat.beq_eq, Nat.ble_eq, Nat.beq_eq_true_eq] <;> first | omega | (rw [← Bool.not_eq_true, Nat.beq_eq]; omega)
theorem zy_neg (c : ClassFile.Cond) (x y : Int32) : zy_cp (zx_neg c) x y ↔ ¬ zy_cp c x y := by
  rw [zy_cpI, zy_cpI]
  cases c <;> simp only [zx_neg] <;> omega
theorem zy_mir (c : ClassFile.Cond) (x y : Int32) : zy_cp (zx_mir c) x y ↔ zy_cp c y x := by
  rw [zy_cpI, zy_cpI]
  cases c <;> simp only [zx_mir] <;> omega
theorem zy_ref {c : ClassFile.Cond} {x y : Int32} {lo hi : Int} (h1 : lo ≤ x.toInt) (h2 : x.toInt ≤ hi) (h : zy_cp c x y) : (zx_ref c y.toInt lo hi).1 ≤ x.toInt ∧ x.toInt ≤ (zx_ref c y.toInt lo hi).2 := by
  rw [zy_cpI] at h
  cases c <;> simp only [zx_ref, Bool.cond_decide] at h ⊢ <;> constructor <;> (repeat' split) <;> omega
/-! the frame that the executor walks -/
noncomputable def zx_name (k : Nat) : MethodName := zx_nam.getD k ⟨"", "", ""⟩
noncomputable def zx_bys (k : Nat) : ByteArray := zx_byt.getD k code
noncomputable def zx_info (k : Nat) : Nat × Option FieldType × Nat × Nat × Nat := zx_inf.getD k (0, none, 0, 0, 0)
noncomputable def zx_tb : List Jvm.Cond := lw_tbl.filter goodWord
def zy_c (ρ : Nat → Int32) (a : zx_V) : Value := match a with
  | .inl n => .int (Int32.ofNat n)
  | .inr (.inr (.inr (.inl i))) => .int (ρ i)
  | _ => .null
def zx_isC (x : zx_V) : Bool := match x with
  | .inl _ => true
  | .inr (.inr (.inr (.inl _))) => true
  | _ => false
/-- what was there before the law, and stays -/
def zy_X (xa : List (Nat × Nat × List zx_V)) (ρ : Nat → Int32) (ex : Nat → Value) (A : Nat → Prop) (U : State) (H : Heap) : Prop :=
  (∀ j, ex j = .null ∨ ∃ a, ex j = .ref a) ∧
  (∀ q ∈ xa, ∃ a, ex q.1 = .ref a ∧ (∀ x ∈ q.2.2, zx_isC x = true) ∧ va_T (zx_ft q.2.1) a q.2.2.length (fun i => zy_c ρ (q.2.2.getD i zx_top)) A U H) ∧
  (va_Z "DeckChairs$Hinge" "ADDED" "[I" (ex 0) A U H ∧ va_Z "java/lang/String" "COMPACT_STRINGS" "Z" (.int 1) A U H ∧ va_Z "jdk/internal/util/Preconditions" "SIOOBE_FORMATTER" "Ljava/util/function/BiFunction;" (ex 7) A U H) ∧
  (∀ j, j = 2 ∨ j = 3 → ∃ a, ex j = .ref a ∧ va_O "java/lang/String" a A U H ∧ va_OF "java/lang/String" "value" "[B" (ex (j + 2)) a A U H ∧ va_OF "java/lang/String" "coder" "B" (.int 0) a A U H) ∧
  (∃ a tx, ex 2 = .ref a ∧ vk_R "DeckChairs$Tokens" 25 tx a U) ∧ (∃ a tx, ex 3 = .ref a ∧ vk_R "DeckChairs$Tokens" 27 tx a U) ∧
  va_Nw (.methodLinkNest "DeckChairs$Hinge" 18 ⟨"DeckChairs", "firstGreatest", "([II)I"⟩ "DeckChairs") U ∧
  (∃ a tx, ex 8 = .ref a ∧ va_O "java/lang/String" a A U H ∧ va_OF "java/lang/String" "value" "[B" (ex 10) a A U H ∧ va_OF "java/lang/String" "coder" "B" (.int 0) a A U H ∧ vk_R "DeckChairs$Tokens" 80 tx a U)
theorem zy_X.call {xa : List (Nat × Nat × List zx_V)} {ρ : Nat → Int32} {ex : Nat → Value} {A : Nat → Prop} {U : State} {H : Heap} (h : zy_X xa ρ ex A U H) (g : JFrame) (mk : MethodId) (a : Array Value) : zy_X xa ρ ex A (U.calling g mk a) H := by
  have hv : U.vm.Alike (U.calling g mk a).vm := Vm.Alike.refl U.vm
  obtain ⟨h1, h2, ⟨h3, h4, h5⟩, h6, ⟨a1, t1, h7, h8⟩, ⟨a2, t2, h9, h10⟩, h11, ⟨a3, t3, h12, h13, h14, h15, h16⟩⟩ := h
  refine ⟨h1, fun q hq => ?_, ⟨h3.moved hv, h4.moved hv, h5.moved hv⟩, fun j hj => ?_, ⟨a1, t1, h7, vk_R.same (u := U) rfl h8⟩, ⟨a2, t2, h9, vk_R.same (u := U) rfl h10⟩, va_Nw.same (u := U) rfl rfl h11, ⟨a3, t3, h12, h13.moved hv, h14.moved hv, h15.moved hv, vk_R.same (u := U) rfl h16⟩⟩
  · obtain ⟨b, e1, e0, e2⟩ := h2 q hq; exact ⟨b, e1, e0, e2.moved hv⟩
  · obtain ⟨b, e1, e2, e3, e4⟩ := h6 j hj; exact ⟨b, e1, e2.moved hv, e3.moved hv, e4.moved hv⟩
theorem zy_X.to {xa : List (Nat × Nat × List zx_V)} {ρ : Nat → Int32} {ex : Nat → Value} {A B : Nat → Prop} {s U : State} {H : Heap} (h : zy_X xa ρ ex A s s.heap) (hW : s.WarmedH U.vm) (hk : ∀ q : Nat, q < s.heap.size → ¬ A q → H[q]? = s.heap[q]?) (hAB : ∀ q, B q → A q) : zy_X xa ρ ex B U H := by
  have hv : s.vm.Alike U.vm := hW.alike
  obtain ⟨h1, h2, ⟨h3, h4, h5⟩, h6, ⟨a1, t1, h7, h8⟩, ⟨a2, t2, h9, h10⟩, h11, ⟨a3, t3, h12, h13, h14, h15, h16⟩⟩ := h
  refine ⟨h1, fun q hq => ?_, ⟨((h3.kept hk).moved hv).narrow hAB, ((h4.kept hk).moved hv).narrow hAB, ((h5.kept hk).moved hv).narrow hAB⟩, fun j hj => ?_, ⟨a1, t1, h7, h8.warm hW⟩, ⟨a2, t2, h9, h10.warm hW⟩, h11.warmM hW, ⟨a3, t3, h12, ((h13.kept hk).moved hv).narrow hAB, ((h14.kept hk).moved hv).narrow hAB, ((h15.kept hk).moved hv).narrow hAB, h16.warm hW⟩⟩
  · obtain ⟨b, e1, e0, e2⟩ := h2 q hq; exact ⟨b, e1, e0, ((e2.kept hk).moved hv).narrow hAB⟩
  · obtain ⟨b, e1, e2, e3, e4⟩ := h6 j hj; exact ⟨b, e1, ((e2.kept hk).moved hv).narrow hAB, ((e3.kept hk).moved hv).narrow hAB, ((e4.kept hk).moved hv).narrow hAB⟩
def zy_C (xa : List (Nat × Nat × List zx_V)) (ρ : Nat → Int32) (ex : Nat → Value) (p : Program) (R : Room) (s : State) (m : MethodId) (args : Array Value) (meth : Method) (c : Code) (A : Nat → Prop) (fr : zx_Fr) : Prop :=
  p.tables.exec = Jvm.exec ∧ c.code = zx_bys fr.2.1 ∧ c.maxLocals = (zx_info fr.2.1).1 ∧ s.vm.findClass (zx_name fr.2.1).cls = some m.cls ∧ (∀ w ∈ zx_tb, w.before args s = true) ∧ (∀ q, s.heap.size ≤ q → A q) ∧ zy_X xa ρ ex A s s.heap ∧
  fr.1 ≤ R.frames ∧ 64 * fr.1 ≤ R.locals ∧ fr.2.2.2.1 ≤ R.cells ∧ fr.2.2.2.2 ≤ R.slots ∧ ((zx_name fr.2.1).name = "<init>" → meth.name = "<init>")
def zy_D (ρ : Nat → Int32) (ex : Nat → Value) (D : va_G) (s : State) (A : Nat → Prop) (fr : zx_Fr) (g : zx_G) (w : zx_Wd) (cs sl : Nat) (as : List Nat) (tys : List (ClassId × FieldType)) (ws : va_W) (H : Heap) (locs : List Loc) : Prop :=
  va_K D zx_cl tys s ∧ va_P D zx_cl ws H ∧ va_D A ws ∧ va_S A s.heap H locs ∧ zy_w ρ ex tys as w ws ∧ zy_g ρ g ∧ cs ≤ fr.2.2.2.1 ∧ sl ≤ fr.2.2.2.2
def zx_rk (r : Option FieldType) (t : Nat) : Prop := (t = 0 ∧ r = some .int) ∨ (t = 1 ∧ r = some .boolean) ∨ (t = 4 ∧ r = some .char) ∨ (t = 5 ∧ r = some .byte)
def zy_rt (ρ : Nat → Int32) (ex : Nat → Value) (as : List Nat) (k pc : Nat) (rv : Option zx_V) (st : List Value) : Prop := match rv with
  | none => st = [] ∧ decode (zx_bys k) pc = .ok (.return_, 1) ∧ (zx_info k).2.1 = none
  | some a => ∃ v, st = [v] ∧ zy_v ρ ex as a v ∧ ((decode (zx_bys k) pc = .ok (.ireturn, 1) ∧ ∃ t, zx_rk (zx_info k).2.1 t ∧ zx_fit t a = true) ∨ (decode (zx_bys k) pc = .ok (.lreturn, 1) ∧ (zx_info k).2.1 = some .long ∧ zx_isL a = true))
/-- where the outcomes lead -/
def zy_RET (ρ : Nat → Int32) (ex : Nat → Value) (D : va_G) (p : Program) (l : Launch) (e : Env) (R : Room) (s : State) (m : MethodId) (args : Array Value) (below : List Frame) (meth : Method) (c : Code) (A : Nat → Prop) (fr : zx_Fr) (as : List Nat) (outs : List zx_O) (Q : State → Prop) : Prop :=
  ∀ o ∈ outs, ∀ (as' : List Nat) (tys' : List (ClassId × FieldType)) (ws' : va_W) (H' : Heap) (locs' : List Loc), zy_p as as' →
    (∀ rv, o.2.2 = .inl rv → ∀ (cs' sl' pc' : Nat) (ls' : Array Slot) (st' : List Value), zy_D ρ ex D s A fr o.1 o.2.1 cs' sl' as' tys' ws' H' locs' → zy_rt ρ ex as' fr.2.1 pc' rv st' → W p l e R s m args below meth c H' locs' cs' sl' Q (F0 m pc' ls' st')) ∧
    (∀ cs' sl' lo' st', o.2.2 = .inr (cs', sl', lo', st') → ∀ (ls' : Array Slot) (sv' : List Value), zy_D ρ ex D s A fr o.1 o.2.1 cs' sl' as' tys' ws' H' locs' → zy_l ρ ex as' ls' (zx_info fr.2.1).1 lo' → zy_s ρ ex as' st' sv' → W p l e R s m args below meth c H' locs' cs' sl' Q (F0 m fr.2.2.1 ls' sv'))
theorem zy_RET.mono {ρ : Nat → Int32} {ex : Nat → Value} {D : va_G} {p : Program} {l : Launch} {e : Env} {R : Room} {s : State} {m : MethodId} {args : Array Value} {below : List Frame} {meth : Method} {c : Code} {A : Nat → Prop} {fr : zx_Fr} {as bs : List Nat} {outs o2 : List zx_O} {Q : State → Prop}
    (h : zy_RET ρ ex D p l e R s m args below meth c A fr as outs Q) (hp : zy_p as bs) (ho : ∀ o ∈ o2, o ∈ outs) : zy_RET ρ ex D p l e R s m args below meth c A fr bs o2 Q := fun o hm as' tys' ws' H' locs' hq => h o (ho o hm) as' tys' ws' H' locs' (hp.tr hq)
def zy_T (xa : List (Nat × Nat × List zx_V)) (ρ : Nat → Int32) (ex : Nat → Value) (D : va_G) (fr : zx_Fr) (g : zx_G) (w : zx_Wd) (cs sl : Nat) (lo : zx_L) (st : List zx_V) (pc : Nat) (outs : List zx_O) : Prop :=
  ∀ {p : Program} {l : Launch} {e : Env} {R : Room} {s : State} {m : MethodId} {args : Array Value} {below : List Frame} {meth : Method} {c : Code} {A : Nat → Prop} {as : List Nat} {tys : List (ClassId × FieldType)} {ws : va_W} {H : Heap} {locs : List Loc} {ls : Array Slot} {sv : List Value} {Q : State → Prop},
    zy_C xa ρ ex p R s m args meth c A fr → zy_D ρ ex D s A fr g w cs sl as tys ws H locs → zy_l ρ ex as ls (zx_info fr.2.1).1 lo → zy_s ρ ex as st sv → zy_RET ρ ex D p l e R s m args below meth c A fr as outs Q → W p l e R s m args below meth c H locs cs sl Q (F0 m pc ls sv)
def zy_Snd (xa : List (Nat × Nat × List zx_V)) (ρ : Nat → Int32) (ex : Nat → Value) (D : va_G) (rec : zx_Rec) : Prop := ∀ fr g w cs sl lo st pc outs, rec fr g w cs sl lo st pc = some outs → zy_T xa ρ ex D fr g w cs sl lo st pc outs
def zy_Hok (xa : List (Nat × Nat × List zx_V)) (ρ : Nat → Int32) (ex : Nat → Value) (D : va_G) (k pc : Nat) (h : zx_Hd) : Prop := ∀ rec, zy_Snd xa ρ ex D rec → ∀ fr g w cs sl lo st outs, fr.2.1 = k → h rec fr g w cs sl lo st pc = some outs → zy_T xa ρ ex D fr g w cs sl lo st pc outs
