/-! every row that is checked is right; so is the executor -/
section ZZ
variable {xa : List (Nat × Nat × List zx_V)} {ρ : Nat → Int32} {ex : Nat → Value} {D : va_G} {k pc : Nat}
set_option maxRecDepth 100000 in
set_option maxHeartbeats 4000000 in
theorem zs_I (hT : zk_t) {i : Instr} {len nx : Nat} {aux : List Nat} (hd : decode (zx_bys k) pc = .ok (i, len)) (h : zx_okI k pc i len nx aux = true) : zy_Hok xa ρ ex D k pc (zx_h xa (i, len, nx, aux)) := by
  have n1 : ∀ (f : Nat → Bool) (g : Nat → zx_Hd), zc1 aux f = true → (∀ i, f i = true → zy_Hok xa ρ ex D k pc (g i)) → zy_Hok xa ρ ex D k pc (zx_a1 aux g) := by
    intro f g hf hg
    match aux, hf with
    | i :: _, hf => exact hg i hf
  have n2 : ∀ (f : Nat → Nat → Bool) (g : Nat → Nat → zx_Hd), zc2 aux f = true → (∀ i j, f i j = true → zy_Hok xa ρ ex D k pc (g i j)) → zy_Hok xa ρ ex D k pc (zx_a2 aux g) := by
    intro f g hf hg
    match aux, hf with
    | i :: j :: _, hf => exact hg i j hf
  have one : decide (len = 1 ∧ nx = pc + 1) = true → len = 1 ∧ nx = pc + 1 := fun z => of_decide_eq_true z
  cases i with
  | aload_n j =>
    refine n1 _ _ h fun i hi => ?_
    obtain ⟨h1, rfl, rfl⟩ := of_decide_eq_true hi
    exact zs_loadA (fun hx hb hl kk => lv_aload_n hx hb hd h1 hl kk) (fun hx hb hl kk => lv_aload_nN hx hb hd h1 hl kk)
  | aload j =>
    refine n1 _ _ h fun i hi => ?_
    obtain ⟨rfl, rfl, rfl⟩ := of_decide_eq_true hi
    exact zs_loadA (fun hx hb hl kk => lv_aload hx hb hd hl kk) (fun hx hb hl kk => lv_aloadN hx hb hd hl kk)
  | iload_n j =>
    refine n1 _ _ h fun i hi => ?_
    obtain ⟨h1, rfl, rfl⟩ := of_decide_eq_true hi
    exact zs_loadI (fun hx hb hl kk => lv_iload_n hx hb hd h1 hl kk)
  | iload j =>
    refine n1 _ _ h fun i hi => ?_
    obtain ⟨rfl, rfl, rfl⟩ := of_decide_eq_true hi
    exact zs_loadI (fun hx hb hl kk => lv_iload hx hb hd hl kk)
  | lload_n j =>
    refine n1 _ _ h fun i hi => ?_
    obtain ⟨h1, rfl, rfl⟩ := of_decide_eq_true hi
    exact zh_load fun {as a v} _ ho hv {p l e R s m args below meth c H locs cells slots Q ls rest} hx hb hl kk => by
      obtain ⟨x, rfl⟩ := zy_isL ho hv
      exact lv_lload_n hx hb hd h1 hl kk
  | istore_n j =>
    refine n1 _ _ h fun i hi => ?_
    obtain ⟨h1, rfl, rfl, h2⟩ := of_decide_eq_true hi
    exact zh_sto1 fun {as a v} _ ho hv {p l e R s m args below meth c H locs cells slots Q ls rest} hx hb hl kk => by
      obtain ⟨x, rfl⟩ := zy_isI ho hv
      exact lv_istore_n hx hb hd h1 hl h2 rfl kk
  | istore j =>
    refine n1 _ _ h fun i hi => ?_
    obtain ⟨rfl, rfl, rfl, h2⟩ := of_decide_eq_true hi
    exact zh_sto1 fun {as a v} _ ho hv {p l e R s m args below meth c H locs cells slots Q ls rest} hx hb hl kk => by
      obtain ⟨x, rfl⟩ := zy_isI ho hv
      exact lv_istore hx hb hd hl h2 rfl kk
  | astore_n j =>
    refine n1 _ _ h fun i hi => ?_
    obtain ⟨h1, rfl, rfl, h2⟩ := of_decide_eq_true hi
    exact zh_sto1 fun {as a v} hex ho hv {p l e R s m args below meth c H locs cells slots Q ls rest} hx hb hl kk => by
      rcases zy_isA hex ho hv with rfl | ⟨q, rfl⟩
      · exact lv_astore_nN hx hb hd h1 hl h2 rfl kk
      · exact lv_astore_n hx hb hd h1 hl h2 rfl kk
  | lstore_n j =>
    refine n1 _ _ h fun i hi => ?_
    obtain ⟨h1, rfl, rfl, h2⟩ := of_decide_eq_true hi
    exact zh_sto2 fun hx hb hl kk => lv_lstore_n hx hb hd h1 hl h2 rfl kk
  | iconst v =>
    refine n1 _ _ h fun n hi => ?_
    obtain ⟨h1, rfl, rfl⟩ := of_decide_eq_true hi
    exact zh_push (v := .int (Int32.ofNat n)) (fun _ => rfl) fun {p l e R s m args below meth c A H locs cells slots Q ls rest fr} hk C _ kk => lv_iconst C.1 (by rw [← hk]; exact C.2.1) hd h1 kk
  | bipush v =>
    refine n1 _ _ h fun n hi => ?_
    obtain ⟨h1, rfl, rfl⟩ := of_decide_eq_true hi
    exact zh_push (v := .int (Int32.ofNat n)) (fun _ => rfl) fun {p l e R s m args below meth c A H locs cells slots Q ls rest fr} hk C _ kk => lv_bipush C.1 (by rw [← hk]; exact C.2.1) hd h1 kk
  | sipush v =>
    refine n1 _ _ h fun n hi => ?_
    obtain ⟨h1, rfl, rfl⟩ := of_decide_eq_true hi
    exact zh_push (v := .int (Int32.ofNat n)) (fun _ => rfl) fun {p l e R s m args below meth c A H locs cells slots Q ls rest fr} hk C _ kk => lv_sipush C.1 (by rw [← hk]; exact C.2.1) hd h1 kk
  | lconst v =>
    refine n1 _ _ h fun n hi => ?_
    obtain ⟨h1, rfl, rfl⟩ := of_decide_eq_true hi
    exact zh_push (v := .long (Int64.ofNat n)) (fun _ => rfl) fun {p l e R s m args below meth c A H locs cells slots Q ls rest fr} hk C _ kk => lv_lconst C.1 (by rw [← hk]; exact C.2.1) hd h1 kk
  | ldc idx =>
    obtain ⟨h1, hz⟩ := Bool.and_eq_true_iff.mp h
    obtain ⟨rfl, rfl⟩ := of_decide_eq_true h1
    clear h n1 n2
    match aux, hz with
    | t :: n :: p :: _, h =>
      have h : cond (Nat.beq t 0) (zx_w p (.constant (zx_name k).cls idx (Int32.ofNat n))) (decide ((zx_name k).cls = "DeckChairs$Tokens" ∧ ((idx = 25 ∧ n = 2) ∨ (idx = 27 ∧ n = 3) ∨ (idx = 80 ∧ n = 8)))) = true := h
      show zy_Hok xa ρ ex D k pc (cond (Nat.beq t 0) (zx_push (.inl n) (pc + 2)) (zx_push (.inr (.inr (.inr (.inr (.inl n))))) (pc + 2)))
      cases hb : Nat.beq t 0 with
      | true =>
        rw [hb] at h
        exact zh_push (v := .int (Int32.ofNat n)) (fun _ => rfl) fun {p l e R s m args below meth c A H locs cells slots Q ls rest fr} hk C _ kk => lv_ldc (own := (zx_name k).cls) C.1 (by rw [← hk]; exact C.2.1) (by rw [← hk]; exact C.2.2.2.1) (C.2.2.2.2.1 _ (zx_w_ok h)) hd kk
      | false =>
        rw [hb] at h
        obtain ⟨e1, e2⟩ := of_decide_eq_true h
        refine zh_push (v := ex n) (fun _ => rfl) fun {p l e R s m args below meth c A H locs cells slots Q ls rest fr} hk C _ kk => ?_
        have hX := C.2.2.2.2.2.2.1
        have ho : s.vm.findClass "DeckChairs$Tokens" = some m.cls := by rw [← e1, ← hk]; exact C.2.2.2.1
        rcases e2 with ⟨rfl, rfl⟩ | ⟨rfl, rfl⟩ | ⟨rfl, rfl⟩
        · obtain ⟨a, tx, f1, f2⟩ := hX.2.2.2.2.1
          rw [f1] at kk
          exact va_ldcS C.1 (by rw [← hk]; exact C.2.1) ho f2 hd kk
        · obtain ⟨a, tx, f1, f2⟩ := hX.2.2.2.2.2.1
          rw [f1] at kk
          exact va_ldcS C.1 (by rw [← hk]; exact C.2.1) ho f2 hd kk
        · obtain ⟨a, tx, f1, -, -, -, f2⟩ := hX.2.2.2.2.2.2.2
          rw [f1] at kk
          exact va_ldcS C.1 (by rw [← hk]; exact C.2.1) ho f2 hd kk
  | ldc_w idx =>
    obtain ⟨h1, hz⟩ := Bool.and_eq_true_iff.mp h
    obtain ⟨rfl, rfl⟩ := of_decide_eq_true h1
    clear h n1 n2
    match aux, hz with
    | t :: n :: p :: _, h =>
      have h : cond (Nat.beq t 0) (zx_w p (.constant (zx_name k).cls idx (Int32.ofNat n))) false = true := h
      show zy_Hok xa ρ ex D k pc (cond (Nat.beq t 0) (zx_push (.inl n) (pc + 3)) zx_bad)
      cases hb : Nat.beq t 0 with
      | true =>
        rw [hb] at h
        exact zh_push (v := .int (Int32.ofNat n)) (fun _ => rfl) fun {p l e R s m args below meth c A H locs cells slots Q ls rest fr} hk C _ kk => lv_ldcw (own := (zx_name k).cls) C.1 (by rw [← hk]; exact C.2.1) (by rw [← hk]; exact C.2.2.2.1) (C.2.2.2.2.1 _ (zx_w_ok h)) hd kk
      | false => rw [hb] at h; cases h
  | ldc2_w idx =>
    obtain ⟨h1, hz⟩ := Bool.and_eq_true_iff.mp h
    obtain ⟨rfl, rfl⟩ := of_decide_eq_true h1
    clear h n1 n2
    match aux, hz with
    | n :: p :: _, h =>
      have h : zx_w p (.constantLong (zx_name k).cls idx (Int64.ofNat n)) = true := h
      exact zh_push (v := .long (Int64.ofNat n)) (fun _ => rfl) fun {p l e R s m args below meth c A H locs cells slots Q ls rest fr} hk C _ kk => lv_ldc2 (own := (zx_name k).cls) C.1 (by rw [← hk]; exact C.2.1) (by rw [← hk]; exact C.2.2.2.1) (C.2.2.2.2.1 _ (zx_w_ok h)) hd kk
  | iinc j v =>
    refine n2 _ _ h fun i cc hi => ?_
    obtain ⟨rfl, h1, rfl, rfl, h2⟩ := of_decide_eq_true hi
    exact zh_inc fun {x p l e R s m args below meth c H locs cells slots Q ls rest} hx hb hl hi kk => by
      obtain ⟨q, hq⟩ := List.getElem?_of_mem (zy_fl_mem hi)
      exact lv_iinc hx hb hd hl hq (by rw [h1]) h2 rfl kk
  | iadd =>
    obtain ⟨rfl, rfl⟩ := one h
    exact zh_bin (op := fun x y => x + y) (S := fun _ => True) (fun ha hb h => by obtain ⟨x, y, v, e1, e2, e3, e4⟩ := zx_add_ok ha hb h; exact ⟨x, y, v, e1, e2, trivial, e3, e4⟩) (fun hx hb _ kk => lv_iadd hx hb hd kk)
  | isub =>
    obtain ⟨rfl, rfl⟩ := one h
    exact zh_bin (op := fun x y => x - y) (S := fun _ => True) (fun ha hb h => by obtain ⟨x, y, v, e1, e2, e3, e4⟩ := zx_bop_ok (op := fun x y => x - y) zy_sub ha hb h; exact ⟨x, y, v, e1, e2, trivial, e3, e4⟩) (fun hx hb _ kk => lv_isub hx hb hd kk)
  | imul =>
    obtain ⟨rfl, rfl⟩ := one h
    exact zh_bin (op := fun x y => x * y) (S := fun _ => True) (fun ha hb h => by obtain ⟨x, y, v, e1, e2, e3, e4⟩ := zx_bop_ok (op := fun x y => x * y) zy_mul ha hb h; exact ⟨x, y, v, e1, e2, trivial, e3, e4⟩) (fun hx hb _ kk => lv_imul hx hb hd kk)
  | iand =>
    obtain ⟨rfl, rfl⟩ := one h
    exact zh_bin (op := fun x y => x &&& y) (S := fun _ => True) (fun ha hb h => by obtain ⟨x, y, v, e1, e2, e3, e4⟩ := zx_bop_ok (op := fun x y => x &&& y) (zy_i2 _) ha hb h; exact ⟨x, y, v, e1, e2, trivial, e3, e4⟩) (fun hx hb _ kk => lv_iand hx hb hd kk)
  | ior =>
    obtain ⟨rfl, rfl⟩ := one h
    exact zh_bin (op := fun x y => x ||| y) (S := fun _ => True) (fun ha hb h => by obtain ⟨x, y, v, e1, e2, e3, e4⟩ := zx_bop_ok (op := fun x y => x ||| y) (zy_i2 _) ha hb h; exact ⟨x, y, v, e1, e2, trivial, e3, e4⟩) (fun hx hb _ kk => lv_ior hx hb hd kk)
  | ixor =>
    obtain ⟨rfl, rfl⟩ := one h
    exact zh_bin (op := fun x y => x ^^^ y) (S := fun _ => True) (fun ha hb h => by obtain ⟨x, y, v, e1, e2, e3, e4⟩ := zx_bop_ok (op := fun x y => x ^^^ y) (zy_i2 _) ha hb h; exact ⟨x, y, v, e1, e2, trivial, e3, e4⟩) (fun hx hb _ kk => lv_ixor hx hb hd kk)
  | ishl =>
    obtain ⟨rfl, rfl⟩ := one h
    exact zh_bin (op := fun x y => x <<< (y &&& 31)) (S := fun _ => True) (fun ha hb h => by obtain ⟨x, y, v, e1, e2, e3, e4⟩ := zx_bop_ok (op := fun x y => x <<< (y &&& 31)) (zy_i2 _) ha hb h; exact ⟨x, y, v, e1, e2, trivial, e3, e4⟩) (fun hx hb _ kk => lv_ishl hx hb hd kk)
  | ishr =>
    obtain ⟨rfl, rfl⟩ := one h
    exact zh_bin (op := fun x y => x >>> (y &&& 31)) (S := fun _ => True) (fun ha hb h => by obtain ⟨x, y, v, e1, e2, e3, e4⟩ := zx_bop_ok (op := fun x y => x >>> (y &&& 31)) (zy_i2 _) ha hb h; exact ⟨x, y, v, e1, e2, trivial, e3, e4⟩) (fun hx hb _ kk => lv_ishr hx hb hd kk)
  | iushr =>
    obtain ⟨rfl, rfl⟩ := one h
    exact zh_bin (op := fun x y => (x.toUInt32 >>> (y.toUInt32 &&& Int32.toUInt32 31)).toInt32) (S := fun _ => True) (fun ha hb h => by obtain ⟨x, y, v, e1, e2, e3, e4⟩ := zx_bop_ok (op := fun x y => (x.toUInt32 >>> (y.toUInt32 &&& Int32.toUInt32 31)).toInt32) (zy_i2 _) ha hb h; exact ⟨x, y, v, e1, e2, trivial, e3, e4⟩) (fun hx hb _ kk => lv_iushr hx hb hd rfl kk)
  | idiv =>
    obtain ⟨rfl, rfl⟩ := one h
    exact zh_bin (op := fun x y => x / y) (S := fun y => ¬ y = 0) (fun ha hb h => zx_div_ok (op := fun x y => x / y) (zy_i2 _) ha hb h) (fun hx hb hy kk => lv_idiv hx hb hd hy kk)
  | irem =>
    obtain ⟨rfl, rfl⟩ := one h
    exact zh_bin (op := fun x y => x - x / y * y) (S := fun y => ¬ y = 0) (fun ha hb h => zx_div_ok (op := fun x y => x - x / y * y) (zy_i2 _) ha hb h) (fun hx hb hy kk => lv_irem hx hb hd hy kk)
  | ladd =>
    obtain ⟨rfl, rfl⟩ := one h
    exact zh_lop (op := fun x y => x + y) (zy_l2 _) (fun hx hb kk => lv_ladd hx hb hd kk)
  | lmul =>
    obtain ⟨rfl, rfl⟩ := one h
    exact zh_lop (op := fun x y => x * y) (zy_l2 _) (fun hx hb kk => lv_lmul hx hb hd kk)
  | i2l =>
    obtain ⟨rfl, rfl⟩ := one h
    exact zh_cvL (op := fun x => x.toInt64) (fun a => zy_of64 _) (fun hx hb kk => lv_i2l hx hb hd rfl kk)
  | i2b =>
    obtain ⟨rfl, rfl⟩ := one h
    exact zh_cvI (op := fun x => x.toInt8.toInt32) (fun a => zy_of32 _) (fun hx hb kk => lv_i2b hx hb hd rfl kk)
  | i2c =>
    obtain ⟨rfl, rfl⟩ := one h
    exact zh_cvI (op := fun x => (x.toUInt32 % 65536).toInt32) (fun a => zy_of32 _) (fun hx hb kk => lv_i2c hx hb hd rfl kk)
  | dup =>
    obtain ⟨rfl, rfl⟩ := one h
    exact zh_stk fun {as st s2 sv} hex hf hs {p l e R s m args below meth cd H locs cells slots Q ls} hx hb kk => by
      match st, sv, hs, hf with
      | a :: r, v :: t, ⟨h1, h2⟩, hf =>
        have hf : cond (zx_isL a) none (some (a :: a :: r)) = some s2 := hf
        have hc := zy_cat hex h1
        cases hL : zx_isL a with
        | true => rw [hL] at hf; cases hf
        | false =>
          rw [hL] at hf hc
          cases hf
          exact lv_dup hx hb hd hc (kk _ ⟨h1, h1, h2⟩)
  | pop =>
    obtain ⟨rfl, rfl⟩ := one h
    exact zh_stk fun {as st s2 sv} hex hf hs {p l e R s m args below meth cd H locs cells slots Q ls} hx hb kk => by
      match st, sv, hs, hf with
      | a :: r, v :: t, ⟨h1, h2⟩, hf =>
        have hf : cond (zx_isL a) none (some r) = some s2 := hf
        have hc := zy_cat hex h1
        cases hL : zx_isL a with
        | true => rw [hL] at hf; cases hf
        | false =>
          rw [hL] at hf hc
          cases hf
          exact lv_pop hx hb hd hc (kk _ h2)
  | dup2 =>
    obtain ⟨rfl, rfl⟩ := one h
    exact zh_stk fun {as st s2 sv} hex hf hs {p l e R s m args below meth cd H locs cells slots Q ls} hx hb kk => by
      match st, sv, hs, hf with
      | b :: a :: r, vb :: va :: t, ⟨h1, h2, h3⟩, hf =>
        have hf : cond (zx_isL a || zx_isL b) none (some (b :: a :: b :: a :: r)) = some s2 := hf
        have hc := zy_cat hex h1
        have hc2 := zy_cat hex h2
        cases hL : zx_isL a with
        | true => rw [hL] at hf; cases hf
        | false =>
          cases hL2 : zx_isL b with
          | true => rw [hL, hL2] at hf; cases hf
          | false =>
            rw [hL, hL2] at hf
            rw [hL2] at hc
            rw [hL] at hc2
            cases hf
            exact lv_dup2_11 hx hb hd hc hc2 (kk _ ⟨h1, h2, h1, h2, h3⟩)
  | ifCond c off =>
    refine n1 _ _ h fun t hi => ?_
    obtain ⟨h1, rfl, rfl⟩ := of_decide_eq_true hi
    exact zs_if1 hd h1
  | if_icmp c off =>
    refine n1 _ _ h fun t hi => ?_
    obtain ⟨h1, rfl, rfl⟩ := of_decide_eq_true hi
    exact zs_if2 hd h1
  | goto off =>
    refine n1 _ _ h fun t hi => ?_
    obtain ⟨h1, rfl⟩ := of_decide_eq_true hi
    exact zh_goto fun hx hb kk => lv_goto hx hb hd h1 kk
  | tableswitch dflt lo hi offs =>
    clear n1 n2
    match aux, h with
    | d :: ts, h =>
      obtain ⟨h1, h2, h3, -⟩ := of_decide_eq_true h
      refine zh_tsw hd h1 h2 fun j t ht => ?_
      have e1 : (ts.map (fun t : Nat => (t : Int)))[j]? = some (t : Int) := by rw [List.getElem?_map, ht]; rfl
      rw [← h3, List.getElem?_map] at e1
      cases e2 : offs.toList[j]? with
      | none => rw [e2] at e1; cases e1
      | some off =>
        rw [e2] at e1
        have e1 : some ((pc : Int) + off) = some (t : Int) := e1
        exact ⟨off, by rw [← Array.getElem?_toList]; exact e2, Option.some.inj e1⟩
  | getfield idx =>
    obtain ⟨h1, hz⟩ := Bool.and_eq_true_iff.mp h
    obtain ⟨rfl, rfl⟩ := of_decide_eq_true h1
    clear h n1 n2
    match aux, hz with
    | t :: ci :: j :: aux2, h =>
      have h : cond (Nat.beq t 0) (match zx_cl[ci]? with
      | some (_, T, N) => decide (j < N) && (zc1 aux2 fun p => zx_w p (.fieldLink (zx_name k).cls idx (T j).1 (T j).2.1 (T j).2.2.1))
      | none => false) (cond (Nat.beq ci 0) (zx_w j (.fieldLink (zx_name k).cls idx "java/lang/String" "value" "[B")) (zx_w j (.fieldLink (zx_name k).cls idx "java/lang/String" "coder" "B"))) = true := h
      show zy_Hok xa ρ ex D k pc (cond (Nat.beq t 0) (zx_gf ci j (pc + 3)) (cond (Nat.beq ci 0) (zx_xgf zx_xv (pc + 3)) (zx_xgf zx_xc (pc + 3))))
      cases hb : Nat.beq t 0 with
      | true =>
        rw [hb] at h
        cases hc : zx_cl[ci]? with
        | none => rw [hc] at h; cases h
        | some q =>
          obtain ⟨C, T, N⟩ := q
          rw [hc] at h
          obtain ⟨h2, h3⟩ := Bool.and_eq_true_iff.mp h
          cases aux2 with
          | nil => cases h3
          | cons p _ => exact zh_gf hc (hT.1 ci C T N hc) (of_decide_eq_true h2) (zx_w_ok h3) hd rfl
      | false =>
        rw [hb] at h
        cases hb2 : Nat.beq ci 0 with
        | true =>
          rw [hb2] at h
          refine zh_xgf (nme := "value") (dsc := "[B") (fun a x hm A s hX => ?_) (zx_w_ok h) hd rfl
          have hm : (a, x) = (2, .inr (.inr (.inr (.inr (.inl 4))))) ∨ (a, x) = (3, .inr (.inr (.inr (.inr (.inl 5))))) := by
            rcases List.mem_cons.mp hm with z | hm
            · exact Or.inl z
            rcases List.mem_cons.mp hm with z | hm
            · exact Or.inr z
            · cases hm
          rcases hm with z | z <;> cases z
          · obtain ⟨b, b1, b2, b3, b4⟩ := hX.2.2.2.1 2 (Or.inl rfl)
            exact ⟨b, _, b1, b3, fun _ => rfl⟩
          · obtain ⟨b, b1, b2, b3, b4⟩ := hX.2.2.2.1 3 (Or.inr rfl)
            exact ⟨b, _, b1, b3, fun _ => rfl⟩
        | false =>
          rw [hb2] at h
          refine zh_xgf (nme := "coder") (dsc := "B") (fun a x hm A s hX => ?_) (zx_w_ok h) hd rfl
          have hm : (a, x) = (2, .inl 0) ∨ (a, x) = (3, .inl 0) := by
            rcases List.mem_cons.mp hm with z | hm
            · exact Or.inl z
            rcases List.mem_cons.mp hm with z | hm
            · exact Or.inr z
            · cases hm
          rcases hm with z | z <;> cases z
          · obtain ⟨b, b1, b2, b3, b4⟩ := hX.2.2.2.1 2 (Or.inl rfl)
            exact ⟨b, _, b1, b4, fun _ => rfl⟩
          · obtain ⟨b, b1, b2, b3, b4⟩ := hX.2.2.2.1 3 (Or.inr rfl)
            exact ⟨b, _, b1, b4, fun _ => rfl⟩
  | putfield idx =>
    obtain ⟨h1, hz⟩ := Bool.and_eq_true_iff.mp h
    obtain ⟨rfl, rfl⟩ := of_decide_eq_true h1
    clear h n1 n2
    match aux, hz with
    | ci :: j :: t :: aux2, h =>
      have h : (match zx_cl[ci]? with
      | some (_, T, N) => decide (j < N) && ((zc1 aux2 fun p => zx_w p (.fieldLink (zx_name k).cls idx (T j).1 (T j).2.1 (T j).2.2.1)) && ((match parseFieldDescriptor (T j).2.2.1 with | some ty => zx_tkB ty t | none => false) && decide ((T j).2.2.2 = false ∨ ((T j).2.2.2 = true ∧ (zx_name k).name = "<init>" ∧ (T j).1 = (zx_name k).cls))))
      | none => false) = true := h
      show zy_Hok xa ρ ex D k pc (zx_pf ci j t (pc + 3))
      cases hc : zx_cl[ci]? with
      | none => rw [hc] at h; cases h
      | some q =>
        obtain ⟨C, T, N⟩ := q
        rw [hc] at h
        obtain ⟨h2, h⟩ := Bool.and_eq_true_iff.mp h
        obtain ⟨h3, h⟩ := Bool.and_eq_true_iff.mp h
        obtain ⟨h4, h5⟩ := Bool.and_eq_true_iff.mp h
        cases hp : parseFieldDescriptor (T j).2.2.1 with
        | none => rw [hp] at h4; cases h4
        | some ty =>
          rw [hp] at h4
          cases aux2 with
          | nil => cases h3
          | cons p _ => exact zh_pf hc (hT.1 ci C T N hc) (of_decide_eq_true h2) (zx_w_ok h3) hp (zx_tkB_ok h4) (of_decide_eq_true h5) hd rfl
  | getstatic idx =>
    obtain ⟨h1, hz⟩ := Bool.and_eq_true_iff.mp h
    obtain ⟨rfl, rfl⟩ := of_decide_eq_true h1
    clear h n1 n2
    match aux, hz with
    | t :: p :: _, h =>
      have h : cond (Nat.beq t 0) (zx_w p (.fieldLink (zx_name k).cls idx "DeckChairs$Hinge" "ADDED" "[I")) (cond (Nat.beq t 1) (zx_w p (.fieldLink (zx_name k).cls idx "java/lang/String" "COMPACT_STRINGS" "Z")) (zx_w p (.fieldLink (zx_name k).cls idx "jdk/internal/util/Preconditions" "SIOOBE_FORMATTER" "Ljava/util/function/BiFunction;"))) = true := h
      show zy_Hok xa ρ ex D k pc (cond (Nat.beq t 0) (zx_push (.inr (.inr (.inr (.inr (.inl 0))))) (pc + 3)) (cond (Nat.beq t 1) (zx_push (.inl 1) (pc + 3)) (zx_push (.inr (.inr (.inr (.inr (.inl 7))))) (pc + 3))))
      cases hb : Nat.beq t 0 with
      | true =>
        rw [hb] at h
        exact zh_push (v := ex 0) (fun _ => rfl) fun {p l e R s m args below meth c A H locs cells slots Q ls rest fr} hk C hS kk => va_gets (own := (zx_name k).cls) C.1 (by rw [← hk]; exact C.2.1) C.2.2.2.2.2.2.1.2.2.1.1 hS (by rw [← hk]; exact C.2.2.2.1) (C.2.2.2.2.1 _ (zx_w_ok h)) (fun _ z => z) hd kk
      | false =>
        rw [hb] at h
        cases hb2 : Nat.beq t 1 with
        | true =>
          rw [hb2] at h
          exact zh_push (v := .int 1) (fun _ => rfl) fun {p l e R s m args below meth c A H locs cells slots Q ls rest fr} hk C hS kk => va_gets (own := (zx_name k).cls) C.1 (by rw [← hk]; exact C.2.1) C.2.2.2.2.2.2.1.2.2.1.2.1 hS (by rw [← hk]; exact C.2.2.2.1) (C.2.2.2.2.1 _ (zx_w_ok h)) (fun _ z => z) hd kk
        | false =>
          rw [hb2] at h
          exact zh_push (v := ex 7) (fun _ => rfl) fun {p l e R s m args below meth c A H locs cells slots Q ls rest fr} hk C hS kk => va_gets (own := (zx_name k).cls) C.1 (by rw [← hk]; exact C.2.1) C.2.2.2.2.2.2.1.2.2.1.2.2 hS (by rw [← hk]; exact C.2.2.2.1) (C.2.2.2.2.1 _ (zx_w_ok h)) (fun _ z => z) hd kk
  | new idx =>
    obtain ⟨h1, hz⟩ := Bool.and_eq_true_iff.mp h
    obtain ⟨rfl, rfl⟩ := of_decide_eq_true h1
    clear h n1 n2
    match aux, hz with
    | ci :: N :: p1 :: p2 :: p3 :: _, h =>
      have h : (match zx_cl[ci]? with
      | some (C, _, N') => decide (N' = N) && (zx_w p1 (.classLink (zx_name k).cls idx C) && (zx_w p2 (.instantiable C N) && zx_w p3 (.initialized C)))
      | none => false) = true := h
      show zy_Hok xa ρ ex D k pc (zx_new ci N (zx_dfl.getD ci []) (pc + 3))
      cases hc : zx_cl[ci]? with
      | none => rw [hc] at h; cases h
      | some q =>
        obtain ⟨C, T, N'⟩ := q
        rw [hc] at h
        obtain ⟨h2, h⟩ := Bool.and_eq_true_iff.mp h
        obtain ⟨h3, h⟩ := Bool.and_eq_true_iff.mp h
        obtain ⟨h4, h5⟩ := Bool.and_eq_true_iff.mp h
        have e : N' = N := of_decide_eq_true h2
        subst e
        exact zh_new hc (hT.1 ci C T N' hc) (zx_w_ok h3) (zx_w_ok h4) (zx_w_ok h5) hd rfl
  | newarray t =>
    obtain ⟨rfl, rfl⟩ := of_decide_eq_true (show decide (len = 2 ∧ nx = pc + 2) = true from h)
    cases t with
    | int => exact zh_newai (t := 0) (by omega) rfl hT.2.1 hd rfl
    | byte => exact zh_newai (t := 1) (by omega) rfl hT.2.2.1 hd rfl
    | boolean => exact zh_newai (t := 2) (by omega) rfl hT.2.2.2.1 hd rfl
    | long => exact zh_newal hT.2.2.2.2.1 hd rfl
    | _ => exact zh_bad
  | arraylength =>
    obtain ⟨rfl, rfl⟩ := one h
    exact zh_alen hd rfl
  | iaload =>
    obtain ⟨rfl, rfl⟩ := one h
    refine zh_ald (ts := fun t => Nat.beq t 0) (nx := pc + 1) (fun t ht => ?_) (fun {t} ht {p l e R s m args below meth c H locs cells slots Q ls rest tys ws q0 t0 a cA n f i} hx hb hK hP h1 h2 h3 kk => ?_) (fun {t} ht {p l e R s m args below meth c H locs cells slots Q ls rest A a n f i} hx hb hT hS h3 kk => ?_)
    · have e : t = 0 := Nat.eq_of_beq_eq_true ht
      omega
    · have e : t = 0 := Nat.eq_of_beq_eq_true ht
      subst e
      exact va_iald hx hb hK hP q0 t0 h1 h2 h3 hd kk
    · have e : t = 0 := Nat.eq_of_beq_eq_true ht
      subst e
      exact va_ti hx hb hT hS h3 rfl hd kk
  | baload =>
    obtain ⟨rfl, rfl⟩ := one h
    refine zh_ald (fun t ht => ?_) (fun {t} ht {p l e R s m args below meth c H locs cells slots Q ls rest tys ws q0 t0 a cA n f i} hx hb hK hP h1 h2 h3 kk => ?_) (fun {t} ht {p l e R s m args below meth c H locs cells slots Q ls rest A a n f i} hx hb hT hS h3 kk => ?_)
    · rcases Bool.or_eq_true_iff.mp (show (Nat.beq t 1 || Nat.beq t 2) = true from ht) with z | z
      · have e : t = 1 := Nat.eq_of_beq_eq_true z
        omega
      · have e : t = 2 := Nat.eq_of_beq_eq_true z
        omega
    · rcases Bool.or_eq_true_iff.mp (show (Nat.beq t 1 || Nat.beq t 2) = true from ht) with z | z
      · have e : t = 1 := Nat.eq_of_beq_eq_true z
        subst e
        exact va_bald hx hb hK hP q0 t0 h1 h2 h3 hd kk
      · have e : t = 2 := Nat.eq_of_beq_eq_true z
        subst e
        exact va_zald hx hb hK hP q0 t0 h1 h2 h3 hd kk
    · rcases Bool.or_eq_true_iff.mp (show (Nat.beq t 1 || Nat.beq t 2) = true from ht) with z | z
      · have e : t = 1 := Nat.eq_of_beq_eq_true z
        subst e
        exact va_tb hx hb hT hS h3 rfl hd kk
      · have e : t = 2 := Nat.eq_of_beq_eq_true z
        subst e
        exact va_tz hx hb hT hS h3 rfl hd kk
  | iastore =>
    obtain ⟨rfl, rfl⟩ := one h
    refine zh_ast (ts := fun t => Nat.beq t 0) (nx := pc + 1) (fun t ht => ?_) (fun {t} ht {p l e R s m args below meth c H locs cells slots Q ls rest tys ws A q0 t0 a cA n f i x} hx hb hK hP hD hS h1 h2 h3 kk => ?_)
    · have e : t = 0 := Nat.eq_of_beq_eq_true ht
      omega
    · have e : t = 0 := Nat.eq_of_beq_eq_true ht
      subst e
      exact va_iast hx hb hK hP hD hS q0 t0 h1 h2 h3 hd kk
  | bastore =>
    obtain ⟨rfl, rfl⟩ := one h
    refine zh_ast (fun t ht => ?_) (fun {t} ht {p l e R s m args below meth c H locs cells slots Q ls rest tys ws A q0 t0 a cA n f i x} hx hb hK hP hD hS h1 h2 h3 kk => ?_)
    · rcases Bool.or_eq_true_iff.mp (show (Nat.beq t 1 || Nat.beq t 2) = true from ht) with z | z
      · have e : t = 1 := Nat.eq_of_beq_eq_true z
        omega
      · have e : t = 2 := Nat.eq_of_beq_eq_true z
        omega
    · rcases Bool.or_eq_true_iff.mp (show (Nat.beq t 1 || Nat.beq t 2) = true from ht) with z | z
      · have e : t = 1 := Nat.eq_of_beq_eq_true z
        subst e
        exact va_bast hx hb hK hP hD hS q0 t0 h1 h2 h3 hd kk
      · have e : t = 2 := Nat.eq_of_beq_eq_true z
        subst e
        exact va_zast hx hb hK hP hD hS q0 t0 h1 h2 h3 hd kk
  | lastore =>
    obtain ⟨rfl, rfl⟩ := one h
    exact zh_lst hd rfl
  | invokevirtual idx =>
    obtain ⟨h1, hz⟩ := Bool.and_eq_true_iff.mp h
    have h1 : len = 3 := of_decide_eq_true h1
    subst h1
    exact zs_call hT hd (Or.inl ⟨rfl, rfl⟩) hz
  | invokestatic idx =>
    obtain ⟨h1, hz⟩ := Bool.and_eq_true_iff.mp h
    have h1 : len = 3 := of_decide_eq_true h1
    subst h1
    exact zs_call hT hd (Or.inr (Or.inl ⟨rfl, rfl⟩)) hz
  | invokespecial idx =>
    obtain ⟨h1, hz⟩ := Bool.and_eq_true_iff.mp h
    have h1 : len = 3 := of_decide_eq_true h1
    subst h1
    exact zs_call hT hd (Or.inr (Or.inr ⟨rfl, rfl⟩)) hz
  | ireturn =>
    obtain ⟨h1, hz⟩ := Bool.and_eq_true_iff.mp h
    have h1 : len = 1 := of_decide_eq_true h1
    subst h1
    refine n1 _ _ hz fun t hi => ?_
    exact zh_ret hd (zx_rkB_ok hi)
  | lreturn =>
    obtain ⟨rfl, h2⟩ := of_decide_eq_true (show decide (len = 1 ∧ (zx_info k).2.1 = some .long) = true from h)
    exact zh_lret hd h2
  | return_ =>
    obtain ⟨rfl, h2⟩ := of_decide_eq_true (show decide (len = 1 ∧ (zx_info k).2.1 = none) = true from h)
    exact zh_vret hd h2
  | _ => first | exact zh_bad | cases h
theorem zs_E (hT : zk_t) {e : zx_RI} (h : zx_ok k pc e = true) : zy_Hok xa ρ ex D k pc (zx_h xa e) := by
  obtain ⟨i, len, nx, aux⟩ := e
  by_cases hi : i = .nop
  · subst hi
    exact zh_bad
  · have h2 : (decide (decode (zx_bys k) pc = .ok (i, len)) && zx_okI k pc i len nx aux) = true := by
      cases i <;> first | exact h | exact absurd rfl hi
    obtain ⟨h3, h4⟩ := Bool.and_eq_true_iff.mp h2
    exact zs_I hT (of_decide_eq_true h3) h4
/-- all rows of a method are checked -/
def zk_a : Prop := ∀ (k pc : Nat) (e : zx_RI), (zx_code.getD k [])[pc]? = some e → zx_ok k pc e = true
theorem zs_ent (hT : zk_t) (hA : zk_a) : zy_Hok xa ρ ex D k pc (zx_ent xa k pc) := by
  unfold zx_ent
  cases h : (zx_code.getD k [])[pc]? with
  | none => exact zh_bad
  | some e => exact zs_E hT (hA k pc e h)
theorem zs_run (hT : zk_t) (hA : zk_a) : ∀ n, zy_Snd xa ρ ex D (zx_run xa n)
  | 0 => by
    intro fr g w cs sl lo st pc outs h
    cases h
  | n + 1 => by
    intro fr g w cs sl lo st pc outs h
    have h : cond (Nat.beq pc fr.2.2.1) (some [(g, w, .inr (cs, sl, lo, st))]) (zx_ent xa fr.2.1 pc (zx_run xa n) fr g w cs sl lo st pc) = some outs := h
    cases hb : Nat.beq pc fr.2.2.1 with
    | false =>
      rw [hb] at h
      intro p l e2 R s m args below meth cd A as tys ws H locs ls sv Q Cx Dy hl hs hret
      exact zs_ent hT hA (zx_run xa n) (zs_run hT hA n) fr g w cs sl lo st outs rfl h Cx Dy hl hs hret
    | true =>
      rw [hb] at h
      have e := Nat.eq_of_beq_eq_true hb
      cases h
      intro p l e2 R s m args below meth cd A as tys ws H locs ls sv Q Cx Dy hl hs hret
      rw [e]
      exact (hret (g, w, .inr (cs, sl, lo, st)) List.mem_cons_self as tys ws H locs zy_p.rf).2 cs sl lo st rfl ls sv Dy hl hs
end ZZ
