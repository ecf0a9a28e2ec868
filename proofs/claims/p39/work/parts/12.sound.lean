/-! what is checked of a table's row, and that the executor is right over checked rows -/
noncomputable def zx_w (i : Nat) (w : Jvm.Cond) : Bool := decide (lw_tbl[i]? = some w) && goodWord w
theorem zx_w_ok {i : Nat} {w : Jvm.Cond} (h : zx_w i w = true) : w ∈ zx_tb := by
  obtain ⟨h1, h2⟩ := Bool.and_eq_true_iff.mp h
  exact List.mem_filter.mpr ⟨List.mem_of_getElem? (of_decide_eq_true h1), h2⟩
def zc1 (a : List Nat) (f : Nat → Bool) : Bool := match a with
  | i :: _ => f i
  | _ => false
def zc2 (a : List Nat) (f : Nat → Nat → Bool) : Bool := match a with
  | i :: j :: _ => f i j
  | _ => false
def zc3 (a : List Nat) (f : Nat → Nat → Nat → Bool) : Bool := match a with
  | i :: j :: k :: _ => f i j k
  | _ => false
def zx_tkB (ty : FieldType) (t : Nat) : Bool := match t, ty with
  | 0, .int => true
  | 1, .boolean => true
  | 2, .object _ => true
  | 2, .array _ => true
  | 3, .long => true
  | _, _ => false
theorem zx_tkB_ok {ty : FieldType} {t : Nat} (h : zx_tkB ty t = true) : zx_tk ty t := by
  unfold zx_tkB at h
  split at h
  · exact Or.inl ⟨rfl, rfl⟩
  · exact Or.inr (Or.inl ⟨rfl, rfl⟩)
  · exact Or.inr (Or.inr (Or.inl ⟨rfl, Or.inl ⟨_, rfl⟩⟩))
  · exact Or.inr (Or.inr (Or.inl ⟨rfl, Or.inr ⟨_, rfl⟩⟩))
  · exact Or.inr (Or.inr (Or.inr (Or.inl ⟨rfl, rfl⟩)))
  · cases h
def zx_rkB (r : Option FieldType) (t : Nat) : Bool := match t, r with
  | 0, some .int => true
  | 1, some .boolean => true
  | 4, some .char => true
  | 5, some .byte => true
  | _, _ => false
theorem zx_rkB_ok {r : Option FieldType} {t : Nat} (h : zx_rkB r t = true) : zx_rk r t := by
  unfold zx_rkB at h
  split at h
  · exact Or.inl ⟨rfl, rfl⟩
  · exact Or.inr (Or.inl ⟨rfl, rfl⟩)
  · exact Or.inr (Or.inr (Or.inl ⟨rfl, rfl⟩))
  · exact Or.inr (Or.inr (Or.inr ⟨rfl, rfl⟩))
  · cases h
noncomputable def zx_mB (k mx p4 : Nat) : Bool := decide (plainName (zx_name k).cls = true ∧ (zx_info k).1 = mx ∧ mx ≤ 45 ∧ (zx_name k).cls ≠ "java/lang/invoke/MethodHandle" ∧ (zx_name k).cls ≠ "java/lang/invoke/VarHandle") && (zx_w (zx_info k).2.2.2.2 (.code (zx_name k) (zx_bys k) (zx_info k).1 (zx_info k).2.1) && zx_w p4 (.initialized (zx_name k).cls))
theorem zx_mB_ok {k mc ms mx p4 : Nat} (h : zx_mB k mx p4 = true) : zk_m k mc ms mx := by
  obtain ⟨h1, h⟩ := Bool.and_eq_true_iff.mp h
  obtain ⟨h2, h3⟩ := Bool.and_eq_true_iff.mp h
  obtain ⟨e1, e2, e3, e4, e5⟩ := of_decide_eq_true h1
  exact ⟨e1, e2, e3, zx_w_ok h2, ⟨e4, e5⟩, zx_w_ok h3⟩
noncomputable def zx_clB (rk ci k : Nat) : Bool := match rk with
  | 0 => false
  | 1 => decide ((zx_name k).cls = "java/lang/String")
  | _ => (match zx_cl[ci]? with
    | some (C, _, _) => decide (C = (zx_name k).cls)
    | none => false)
theorem zx_clB_ok {rk ci k : Nat} (h : zx_clB rk ci k = true) : rk ≠ 0 ∧ (rk = 0 ∨ (rk = 1 ∧ (zx_name k).cls = "java/lang/String") ∨ (2 ≤ rk ∧ ∃ T N, zx_cl[ci]? = some ((zx_name k).cls, T, N))) := by
  match rk, h with
  | 1, h => exact ⟨by omega, Or.inr (Or.inl ⟨rfl, of_decide_eq_true h⟩)⟩
  | n + 2, h =>
    refine ⟨by omega, Or.inr (Or.inr ⟨by omega, ?_⟩)⟩
    have h : (match zx_cl[ci]? with
    | some (C, _, _) => decide (C = (zx_name k).cls)
    | none => false) = true := h
    cases hc : zx_cl[ci]? with
    | none => rw [hc] at h; cases h
    | some q =>
      obtain ⟨C, T, N⟩ := q
      rw [hc] at h
      have e : C = (zx_name k).cls := of_decide_eq_true h
      subst e
      exact ⟨T, N, rfl⟩
def zx_np (k : MethodName) (n : Nat) : Bool := decide ((parseMethodDescriptor k.desc).map (fun d => d.parameters.length) = some n)
/-- a call's row: its kind by the instruction (1 virtual, 2 static, 3 special) -/
noncomputable def zx_okC (k pc vk idx nx : Nat) (a : List Nat) : Bool := decide (nx = pc + 3) && (match a with
  | 0 :: p :: _ => decide (vk = 3) && zx_w p (.methodLink (zx_name k).cls idx objectInit)
  | 1 :: p :: _ => decide (vk = 2) && zx_w p (.methodLink (zx_name k).cls idx arraycopyName)
  | 4 :: p1 :: p2 :: p3 :: p4 :: _ => decide (vk = 2) && (zx_w p1 (.methodLink (zx_name k).cls idx Lib.Math.max.name) && (zx_w p2 (.static Lib.Math.max.name) && (zx_w p3 (.code Lib.Math.max.name Lib.Math.max.code 2 (some .int)) && zx_w p4 (.initialized "java/lang/Math"))))
  | 5 :: p1 :: p2 :: p3 :: p4 :: _ => decide (vk = 2) && (zx_w p1 (.methodLink (zx_name k).cls idx Lib.Math.min.name) && (zx_w p2 (.static Lib.Math.min.name) && (zx_w p3 (.code Lib.Math.min.name Lib.Math.min.code 2 (some .int)) && zx_w p4 (.initialized "java/lang/Math"))))
  | 2 :: rk :: ci :: k' :: _ :: _ :: p1 :: p2 :: p3 :: p4 :: mx :: is => zx_mB k' mx p4 && (zx_w p1 (.methodLink (zx_name k).cls idx (zx_name k')) && (match vk with
    | 1 => zx_clB rk ci k' && (zx_w p2 (.instanceMethod (zx_name k')) && (zx_w p3 (.selects (zx_name k').cls (zx_name k') (zx_name k')) && (match is with | _ :: r => zx_np (zx_name k') r.length | _ => false)))
    | 2 => decide (rk = 0) && (zx_w p2 (.static (zx_name k')) && zx_np (zx_name k') is.length)
    | _ => zx_clB rk ci k' && (decide (vk = 3 ∧ (zx_info k').2.1 = none ∧ (zx_name k').name = "<init>") && (zx_w p2 (.instanceMethod (zx_name k')) && (match is with | _ :: r => zx_np (zx_name k') r.length | _ => false)))))
  | 3 :: rk :: _ :: k' :: _ :: _ :: _ :: p2 :: _ :: p4 :: mx :: is => zx_mB k' mx p4 && (decide (vk = 2 ∧ rk = 0 ∧ (zx_name k).cls = "DeckChairs$Hinge" ∧ idx = 18 ∧ zx_name k' = ⟨"DeckChairs", "firstGreatest", "([II)I"⟩) && (zx_w p2 (.static (zx_name k')) && zx_np (zx_name k') is.length))
  | _ => false)
noncomputable def zx_okI (k pc : Nat) (i : Instr) (len nx : Nat) (aux : List Nat) : Bool := match i with
  | .aload_n j => zc1 aux fun i => decide (j.val = i ∧ len = 1 ∧ nx = pc + 1)
  | .aload j => zc1 aux fun i => decide (j = i ∧ len = 2 ∧ nx = pc + 2)
  | .iload_n j => zc1 aux fun i => decide (j.val = i ∧ len = 1 ∧ nx = pc + 1)
  | .iload j => zc1 aux fun i => decide (j = i ∧ len = 2 ∧ nx = pc + 2)
  | .lload_n j => zc1 aux fun i => decide (j.val = i ∧ len = 1 ∧ nx = pc + 1)
  | .istore_n j => zc1 aux fun i => decide (j.val = i ∧ len = 1 ∧ nx = pc + 1 ∧ i < (zx_info k).1)
  | .istore j => zc1 aux fun i => decide (j = i ∧ len = 2 ∧ nx = pc + 2 ∧ i < (zx_info k).1)
  | .astore_n j => zc1 aux fun i => decide (j.val = i ∧ len = 1 ∧ nx = pc + 1 ∧ i < (zx_info k).1)
  | .lstore_n j => zc1 aux fun i => decide (j.val = i ∧ len = 1 ∧ nx = pc + 1 ∧ i + 1 < (zx_info k).1)
  | .lload j => zc1 aux fun i => decide (j = i ∧ len = 2 ∧ nx = pc + 2)
  | .lstore j => zc1 aux fun i => decide (j = i ∧ len = 2 ∧ nx = pc + 2 ∧ i + 1 < (zx_info k).1)
  | .astore j => zc1 aux fun i => decide (j = i ∧ len = 2 ∧ nx = pc + 2 ∧ i < (zx_info k).1)
  | .laload => decide (len = 1 ∧ nx = pc + 1)
  | .lcmp => decide (len = 1 ∧ nx = pc + 1)
  | .l2i => decide (len = 1 ∧ nx = pc + 1)
  | .lor => decide (len = 1 ∧ nx = pc + 1)
  | .lshl => decide (len = 1 ∧ nx = pc + 1)
  | .dup_x1 => decide (len = 1 ∧ nx = pc + 1)
  | .lookupswitch dflt ps => (match aux with
    | d :: ts => decide ((pc : Int) + dflt = (d : Int) ∧ ps.toList.map (fun o => (pc : Int) + o.2) = ts.map (fun t : Nat => (t : Int)) ∧ (ps.toList.zip (ps.toList.drop 1)).all (fun (a, next) => a.1 < next.1) = true)
    | _ => false)
  | .iconst v => zc1 aux fun n => decide (Int32.ofInt v = Int32.ofNat n ∧ len = 1 ∧ nx = pc + 1)
  | .bipush v => zc1 aux fun n => decide ((Int8.ofInt v).toInt32 = Int32.ofNat n ∧ len = 2 ∧ nx = pc + 2)
  | .sipush v => zc1 aux fun n => decide ((Int16.ofInt v).toInt32 = Int32.ofNat n ∧ len = 3 ∧ nx = pc + 3)
  | .lconst v => zc1 aux fun n => decide (Int64.ofNat v.val = Int64.ofNat n ∧ len = 1 ∧ nx = pc + 1)
  | .ldc idx => decide (len = 2 ∧ nx = pc + 2) && zc3 aux fun t n p => cond (Nat.beq t 0) (zx_w p (.constant (zx_name k).cls idx (Int32.ofNat n))) (decide ((zx_name k).cls = "DeckChairs$Tokens" ∧ ((idx = 25 ∧ n = 2) ∨ (idx = 27 ∧ n = 3) ∨ (idx = 80 ∧ n = 8))))
  | .ldc_w idx => decide (len = 3 ∧ nx = pc + 3) && zc3 aux fun t n p => cond (Nat.beq t 0) (zx_w p (.constant (zx_name k).cls idx (Int32.ofNat n))) false
  | .ldc2_w idx => decide (len = 3 ∧ nx = pc + 3) && zc2 aux fun n p => zx_w p (.constantLong (zx_name k).cls idx (Int64.ofNat n))
  | .iinc j v => zc2 aux fun i c => decide (j = i ∧ Int32.ofInt v = Int32.ofNat c ∧ len = 3 ∧ nx = pc + 3 ∧ i < (zx_info k).1)
  | .iadd => decide (len = 1 ∧ nx = pc + 1)
  | .isub => decide (len = 1 ∧ nx = pc + 1)
  | .imul => decide (len = 1 ∧ nx = pc + 1)
  | .iand => decide (len = 1 ∧ nx = pc + 1)
  | .ior => decide (len = 1 ∧ nx = pc + 1)
  | .ixor => decide (len = 1 ∧ nx = pc + 1)
  | .ishl => decide (len = 1 ∧ nx = pc + 1)
  | .ishr => decide (len = 1 ∧ nx = pc + 1)
  | .iushr => decide (len = 1 ∧ nx = pc + 1)
  | .idiv => decide (len = 1 ∧ nx = pc + 1)
  | .irem => decide (len = 1 ∧ nx = pc + 1)
  | .ladd => decide (len = 1 ∧ nx = pc + 1)
  | .lmul => decide (len = 1 ∧ nx = pc + 1)
  | .i2l => decide (len = 1 ∧ nx = pc + 1)
  | .i2b => decide (len = 1 ∧ nx = pc + 1)
  | .i2c => decide (len = 1 ∧ nx = pc + 1)
  | .dup => decide (len = 1 ∧ nx = pc + 1)
  | .pop => decide (len = 1 ∧ nx = pc + 1)
  | .dup2 => decide (len = 1 ∧ nx = pc + 1)
  | .ifCond _ off => zc1 aux fun t => decide ((pc : Int) + off = (t : Int) ∧ len = 3 ∧ nx = pc + 3)
  | .if_icmp _ off => zc1 aux fun t => decide ((pc : Int) + off = (t : Int) ∧ len = 3 ∧ nx = pc + 3)
  | .goto off => zc1 aux fun t => decide ((pc : Int) + off = (t : Int) ∧ len = 3)
  | .tableswitch dflt lo hi offs => (match aux with
    | d :: ts => decide ((pc : Int) + dflt = (d : Int) ∧ hi = lo + ts.length - 1 ∧ offs.toList.map (fun o => (pc : Int) + o) = ts.map (fun t : Nat => (t : Int)) ∧ -2147483648 ≤ lo ∧ hi ≤ 2147483647 ∧ lo ≤ 2147483647 ∧ -2147483648 ≤ hi)
    | _ => false)
  | .getfield idx => decide (len = 3 ∧ nx = pc + 3) && zc3 aux fun t ci j => cond (Nat.beq t 0) (match zx_cl[ci]? with
      | some (_, T, N) => decide (j < N) && (zc1 (aux.drop 3) fun p => zx_w p (.fieldLink (zx_name k).cls idx (T j).1 (T j).2.1 (T j).2.2.1))
      | none => false) (cond (Nat.beq ci 0) (zx_w j (.fieldLink (zx_name k).cls idx "java/lang/String" "value" "[B")) (zx_w j (.fieldLink (zx_name k).cls idx "java/lang/String" "coder" "B")))
  | .putfield idx => decide (len = 3 ∧ nx = pc + 3) && zc3 aux fun ci j t => (match zx_cl[ci]? with
      | some (_, T, N) => decide (j < N) && ((zc1 (aux.drop 3) fun p => zx_w p (.fieldLink (zx_name k).cls idx (T j).1 (T j).2.1 (T j).2.2.1)) && ((match parseFieldDescriptor (T j).2.2.1 with | some ty => zx_tkB ty t | none => false) && decide ((T j).2.2.2 = false ∨ ((T j).2.2.2 = true ∧ (zx_name k).name = "<init>" ∧ (T j).1 = (zx_name k).cls))))
      | none => false)
  | .getstatic idx => decide (len = 3 ∧ nx = pc + 3) && zc2 aux fun t p => cond (Nat.beq t 0) (zx_w p (.fieldLink (zx_name k).cls idx "DeckChairs$Hinge" "ADDED" "[I")) (cond (Nat.beq t 1) (zx_w p (.fieldLink (zx_name k).cls idx "java/lang/String" "COMPACT_STRINGS" "Z")) (zx_w p (.fieldLink (zx_name k).cls idx "jdk/internal/util/Preconditions" "SIOOBE_FORMATTER" "Ljava/util/function/BiFunction;")))
  | .new idx => decide (len = 3 ∧ nx = pc + 3) && (match aux with
    | ci :: N :: p1 :: p2 :: p3 :: _ => (match zx_cl[ci]? with
      | some (C, _, N') => decide (N' = N) && (zx_w p1 (.classLink (zx_name k).cls idx C) && (zx_w p2 (.instantiable C N) && zx_w p3 (.initialized C)))
      | none => false)
    | _ => false)
  | .newarray _ => decide (len = 2 ∧ nx = pc + 2)
  | .arraylength => decide (len = 1 ∧ nx = pc + 1)
  | .iaload => decide (len = 1 ∧ nx = pc + 1)
  | .baload => decide (len = 1 ∧ nx = pc + 1)
  | .iastore => decide (len = 1 ∧ nx = pc + 1)
  | .bastore => decide (len = 1 ∧ nx = pc + 1)
  | .lastore => decide (len = 1 ∧ nx = pc + 1)
  | .invokevirtual idx => decide (len = 3) && zx_okC k pc 1 idx nx aux
  | .invokestatic idx => decide (len = 3) && zx_okC k pc 2 idx nx aux
  | .invokespecial idx => decide (len = 3) && zx_okC k pc 3 idx nx aux
  | .ireturn => decide (len = 1) && zc1 aux fun t => zx_rkB (zx_info k).2.1 t
  | .lreturn => decide (len = 1 ∧ (zx_info k).2.1 = some .long)
  | .return_ => decide (len = 1 ∧ (zx_info k).2.1 = none)
  | _ => false
noncomputable def zx_ok (k pc : Nat) (e : zx_RI) : Bool := match e.1 with
  | .nop => true
  | i => decide (decode (zx_bys k) pc = .ok (i, e.2.1)) && zx_okI k pc i e.2.1 e.2.2.1 e.2.2.2
/-- what is true of the tables as a whole -/
def zk_t : Prop := (∀ ci C T N, zx_cl[ci]? = some (C, T, N) → zk_cl ci) ∧ Jvm.Cond.arrayClass .int ∈ zx_tb ∧ Jvm.Cond.arrayClass .byte ∈ zx_tb ∧ Jvm.Cond.arrayClass .boolean ∈ zx_tb ∧ Jvm.Cond.arrayClass .long ∈ zx_tb ∧ Jvm.Cond.instanceMethod objectInit ∈ zx_tb ∧ Jvm.Cond.code objectInit ⟨#[0xb1]⟩ 1 none ∈ zx_tb ∧ Jvm.Cond.native arraycopyName ∈ zx_tb ∧ Jvm.Cond.static arraycopyName ∈ zx_tb ∧ Jvm.Cond.initialized "java/lang/System" ∈ zx_tb
section ZS
variable {xa : List (Nat × Nat × List zx_V)} {ρ : Nat → Int32} {ex : Nat → Value} {D : va_G} {k pc : Nat}
theorem zs_loadI {i nx : Nat} (row : ∀ {x : Int32} {p : Program} {l : Launch} {e : Env} {R : Room} {s : State} {m : MethodId} {args : Array Value} {below : List Frame} {meth : Method} {c : Code} {H : Heap} {locs : List Loc} {cells slots : Nat} {Q : State → Prop} {ls : Array Slot} {rest : List Value}, p.tables.exec = Jvm.exec → c.code = zx_bys k → ls[i]? = some (.val (.int x)) →
      W p l e R s m args below meth c H locs cells slots Q (F0 m nx ls (.int x :: rest)) → W p l e R s m args below meth c H locs cells slots Q (F0 m pc ls rest)) : zy_Hok xa ρ ex D k pc (zx_load zx_isI i nx) :=
  zh_load fun {as a v} _ ho hv {p l e R s m args below meth c H locs cells slots Q ls rest} hx hb hl kk => by
    obtain ⟨x, rfl⟩ := zy_isI ho hv
    exact row hx hb hl kk
theorem zs_loadA {i nx : Nat} (row : ∀ {x : Nat} {p : Program} {l : Launch} {e : Env} {R : Room} {s : State} {m : MethodId} {args : Array Value} {below : List Frame} {meth : Method} {c : Code} {H : Heap} {locs : List Loc} {cells slots : Nat} {Q : State → Prop} {ls : Array Slot} {rest : List Value}, p.tables.exec = Jvm.exec → c.code = zx_bys k → ls[i]? = some (.val (.ref x)) →
      W p l e R s m args below meth c H locs cells slots Q (F0 m nx ls (.ref x :: rest)) → W p l e R s m args below meth c H locs cells slots Q (F0 m pc ls rest))
    (rowN : ∀ {p : Program} {l : Launch} {e : Env} {R : Room} {s : State} {m : MethodId} {args : Array Value} {below : List Frame} {meth : Method} {c : Code} {H : Heap} {locs : List Loc} {cells slots : Nat} {Q : State → Prop} {ls : Array Slot} {rest : List Value}, p.tables.exec = Jvm.exec → c.code = zx_bys k → ls[i]? = some (.val .null) →
      W p l e R s m args below meth c H locs cells slots Q (F0 m nx ls (.null :: rest)) → W p l e R s m args below meth c H locs cells slots Q (F0 m pc ls rest)) : zy_Hok xa ρ ex D k pc (zx_load zx_isA i nx) :=
  zh_load fun {as a v} hex ho hv {p l e R s m args below meth c H locs cells slots Q ls rest} hx hb hl kk => by
    rcases zy_isA hex ho hv with rfl | ⟨q, rfl⟩
    · exact rowN hx hb hl kk
    · exact row hx hb hl kk
theorem zs_if2 {c : ClassFile.Cond} {off : Int} {tgt : Nat} (hd : decode (zx_bys k) pc = .ok (.if_icmp c off, 3)) (ht : (pc : Int) + off = (tgt : Int)) : zy_Hok xa ρ ex D k pc (zx_if2 c tgt (pc + 3)) := by
  cases c
  · exact zh_if2 fun hx hb kt kf => lv_icmp_eq hx hb hd ht kt kf
  · exact zh_if2 fun hx hb kt kf => lv_icmp_ne hx hb hd ht kt (fun h => kf (fun n => n h))
  · exact zh_if2 fun hx hb kt kf => lv_icmp_lt hx hb hd ht kt kf
  · exact zh_if2 fun hx hb kt kf => lv_icmp_ge hx hb hd ht kt kf
  · exact zh_if2 fun hx hb kt kf => lv_icmp_gt hx hb hd ht kt kf
  · exact zh_if2 fun hx hb kt kf => lv_icmp_le hx hb hd ht kt kf
theorem zs_if1 {c : ClassFile.Cond} {off : Int} {tgt : Nat} (hd : decode (zx_bys k) pc = .ok (.ifCond c off, 3)) (ht : (pc : Int) + off = (tgt : Int)) : zy_Hok xa ρ ex D k pc (zx_if1 c tgt (pc + 3)) := by
  cases c
  · exact zh_if1 fun hx hb kt kf => lv_if_eq hx hb hd ht kt kf
  · exact zh_if1 fun hx hb kt kf => lv_if_ne hx hb hd ht kt (fun h => kf (fun n => n h))
  · exact zh_if1 fun hx hb kt kf => lv_if_lt hx hb hd ht kt kf
  · exact zh_if1 fun hx hb kt kf => lv_if_ge hx hb hd ht kt kf
  · exact zh_if1 fun hx hb kt kf => lv_if_gt hx hb hd ht kt kf
  · exact zh_if1 fun hx hb kt kf => lv_if_le hx hb hd ht kt kf
theorem zs_call {vk idx nx : Nat} {i : Instr} {aux : List Nat} (hT : zk_t) (hd : decode (zx_bys k) pc = .ok (i, 3)) (hi : (vk = 1 ∧ i = .invokevirtual idx) ∨ (vk = 2 ∧ i = .invokestatic idx) ∨ (vk = 3 ∧ i = .invokespecial idx)) (h : zx_okC k pc vk idx nx aux = true) : zy_Hok xa ρ ex D k pc (zx_inv aux nx) := by
  obtain ⟨hn, h⟩ := Bool.and_eq_true_iff.mp h
  have hn := of_decide_eq_true hn
  match aux, h with
  | 0 :: p :: _, h =>
    obtain ⟨h1, h2⟩ := Bool.and_eq_true_iff.mp h
    have h1 := of_decide_eq_true h1
    rcases hi with ⟨z, -⟩ | ⟨z, -⟩ | ⟨-, rfl⟩
    · omega
    · omega
    · exact zh_oin (zx_w_ok h2) hT.2.2.2.2.2.1 hT.2.2.2.2.2.2.1 hd hn
  | 1 :: p :: _, h =>
    obtain ⟨h1, h2⟩ := Bool.and_eq_true_iff.mp h
    have h1 := of_decide_eq_true h1
    rcases hi with ⟨z, -⟩ | ⟨-, rfl⟩ | ⟨z, -⟩
    · omega
    · exact zh_cpy (zx_w_ok h2) hT.2.2.2.2.2.2.2.1 hT.2.2.2.2.2.2.2.2.1 hT.2.2.2.2.2.2.2.2.2 hd hn
    · omega
  | 4 :: p1 :: p2 :: p3 :: p4 :: _, h =>
    obtain ⟨h1, h⟩ := Bool.and_eq_true_iff.mp h
    obtain ⟨h2, h⟩ := Bool.and_eq_true_iff.mp h
    obtain ⟨h3, h⟩ := Bool.and_eq_true_iff.mp h
    obtain ⟨h4, h5⟩ := Bool.and_eq_true_iff.mp h
    have h1 := of_decide_eq_true h1
    rcases hi with ⟨z, -⟩ | ⟨-, rfl⟩ | ⟨z, -⟩
    · omega
    · exact zh_mmx (zx_w_ok h2) (zx_w_ok h3) (zx_w_ok h4) (zx_w_ok h5) hd hn
    · omega
  | 5 :: p1 :: p2 :: p3 :: p4 :: _, h =>
    obtain ⟨h1, h⟩ := Bool.and_eq_true_iff.mp h
    obtain ⟨h2, h⟩ := Bool.and_eq_true_iff.mp h
    obtain ⟨h3, h⟩ := Bool.and_eq_true_iff.mp h
    obtain ⟨h4, h5⟩ := Bool.and_eq_true_iff.mp h
    have h1 := of_decide_eq_true h1
    rcases hi with ⟨z, -⟩ | ⟨-, rfl⟩ | ⟨z, -⟩
    · omega
    · exact zh_mmn (zx_w_ok h2) (zx_w_ok h3) (zx_w_ok h4) (zx_w_ok h5) hd hn
    · omega
  | 2 :: rk :: ci :: k' :: mc :: ms :: p1 :: p2 :: p3 :: p4 :: mx :: is, h =>
    obtain ⟨h1, h⟩ := Bool.and_eq_true_iff.mp h
    obtain ⟨h2, h⟩ := Bool.and_eq_true_iff.mp h
    have hM : zk_m k' mc ms mx := zx_mB_ok h1
    rcases hi with ⟨rfl, rfl⟩ | ⟨rfl, rfl⟩ | ⟨rfl, rfl⟩
    · obtain ⟨e1, h⟩ := Bool.and_eq_true_iff.mp h
      obtain ⟨e2, h⟩ := Bool.and_eq_true_iff.mp h
      obtain ⟨e3, h⟩ := Bool.and_eq_true_iff.mp h
      match is, h with
      | _ :: r, h => exact zh_virt hn hM (zx_clB_ok e1).1 (zx_clB_ok e1).2 (of_decide_eq_true h) rfl (zx_w_ok h2) (zx_w_ok e2) (zx_w_ok e3) hd
    · obtain ⟨e1, h⟩ := Bool.and_eq_true_iff.mp h
      obtain ⟨e2, hz⟩ := Bool.and_eq_true_iff.mp h
      have e1 : rk = 0 := of_decide_eq_true e1
      subst e1
      exact zh_stat hn hM (of_decide_eq_true hz) rfl (zx_w_ok h2) (zx_w_ok e2) hd
    · obtain ⟨e1, h⟩ := Bool.and_eq_true_iff.mp h
      obtain ⟨e2, h⟩ := Bool.and_eq_true_iff.mp h
      obtain ⟨e3, h⟩ := Bool.and_eq_true_iff.mp h
      obtain ⟨-, f1, f2⟩ := of_decide_eq_true e2
      match is, h with
      | _ :: r, h => exact zh_spec hn hM (zx_clB_ok e1).1 (zx_clB_ok e1).2 (of_decide_eq_true h) rfl f1 f2 (zx_w_ok h2) (zx_w_ok e3) hd
  | 3 :: rk :: ci :: k' :: mc :: ms :: p1 :: p2 :: p3 :: p4 :: mx :: is, h =>
    obtain ⟨h1, h⟩ := Bool.and_eq_true_iff.mp h
    obtain ⟨h2, h⟩ := Bool.and_eq_true_iff.mp h
    obtain ⟨h3, hz⟩ := Bool.and_eq_true_iff.mp h
    obtain ⟨e1, e2, e3, e4, e5⟩ := of_decide_eq_true h2
    have hM : zk_m k' mc ms mx := zx_mB_ok h1
    subst e2
    rcases hi with ⟨z, -⟩ | ⟨-, rfl⟩ | ⟨z, -⟩
    · omega
    · exact zh_nest hn hM (of_decide_eq_true hz) rfl e3 e4 e5 (zx_w_ok h3) hd
    · omega
end ZS
