/-! the second executor is right -/
theorem q_lg (x y : Int64) : lg_cmp x y = q_c64 x y := by
  unfold q_c64
  by_cases h1 : y < x
  · have e1 : lg_cmp x y = 1 := by simp [lg_cmp, h1]
    have h2 := Int64.lt_iff_toInt_lt.mp h1
    rw [e1, if_neg (fun z => by rw [z] at h2; omega), if_neg (fun z => by have := Int64.lt_iff_toInt_lt.mp z; omega)]
  · by_cases h2 : x = y
    · subst h2
      have e1 : lg_cmp x x = 0 := by simp [lg_cmp]
      rw [e1, if_pos rfl]
    · have e1 : lg_cmp x y = -1 := by simp [lg_cmp, h1, h2]
      have h3 : x < y := by
        apply Int64.lt_iff_toInt_lt.mpr
        have a : ¬ y.toInt < x.toInt := fun z => h1 (Int64.lt_iff_toInt_lt.mpr z)
        have b : x.toInt ≠ y.toInt := fun z => h2 (Int64.toInt_inj.mp z)
        omega
      rw [e1, if_neg h2, if_pos h3]
theorem q_b8 (x : Int32) : (-128 : Int) ≤ x.toInt8.toInt32.toInt ∧ x.toInt8.toInt32.toInt ≤ 127 := by
  rw [Int8.toInt_toInt32, Int32.toInt_toInt8, Int.bmod_def]
  split <;> omega
theorem q_b8id (x : Int32) (h1 : (-128 : Int) ≤ x.toInt) (h2 : x.toInt ≤ 127) : x.toInt8.toInt32 = x := by
  apply Int32.toInt_inj.mp
  rw [Int8.toInt_toInt32, Int32.toInt_toInt8, Int.bmod_def]
  split <;> omega
theorem q_c16id (x : Int32) (h1 : (0 : Int) ≤ x.toInt) (h2 : x.toInt ≤ 65535) : (x.toUInt32 % 65536).toInt32 = x := lg_i2c_word h1 (by omega)
theorem q_c16 (x : Int32) : (0 : Int) ≤ ((x.toUInt32 % 65536).toInt32).toInt ∧ ((x.toUInt32 % 65536).toInt32).toInt ≤ 65535 := by
  rw [lg_i2c_nf, lg_i2c_toInt]
  have a := Int.emod_nonneg x.toInt (b := 2 ^ 16) (by decide)
  have b := Int.emod_lt_of_pos x.toInt (b := 2 ^ 16) (by decide)
  have e : (2 : Int) ^ 16 = 65536 := by decide
  rw [e] at a b ⊢
  omega
section QR2
variable {ex : Nat → Value} {fc : Nat → Nat → Int32} {Γ : qΓ} {D : va_G} {as : List Nat} {tys : List (ClassId × FieldType)} {k pc : Nat}
theorem qs_call {ct : List qC} (hV : ∀ c ∈ ct, qy_V ex Γ D as tys c) {vk idx nx : Nat} {i : Instr} {aux : List Nat} (hT : zk_t) (hd : decode (zx_bys k) pc = .ok (i, 3)) (hi : (vk = 1 ∧ i = .invokevirtual idx) ∨ (vk = 2 ∧ i = .invokestatic idx) ∨ (vk = 3 ∧ i = .invokespecial idx)) (hv3 : vk ≠ 3) (h : zx_okC k pc vk idx nx aux = true) : qy_Hok ex Γ D as tys k pc (q_inv ct aux nx) := by
  obtain ⟨hn, h⟩ := Bool.and_eq_true_iff.mp h
  have hn := of_decide_eq_true hn
  match aux, h with
  | 0 :: p :: _, h => exact qh_bad
  | 1 :: p :: _, h =>
    obtain ⟨h1, h2⟩ := Bool.and_eq_true_iff.mp h
    have h1 := of_decide_eq_true h1
    rcases hi with ⟨z, -⟩ | ⟨-, rfl⟩ | ⟨z, -⟩
    · omega
    · exact qh_cpy (zx_w_ok h2) hT.2.2.2.2.2.2.2.1 hT.2.2.2.2.2.2.2.2.1 hT.2.2.2.2.2.2.2.2.2 hd hn
    · omega
  | 4 :: p1 :: p2 :: p3 :: p4 :: _, h =>
    obtain ⟨h1, h⟩ := Bool.and_eq_true_iff.mp h
    obtain ⟨h2, h⟩ := Bool.and_eq_true_iff.mp h
    obtain ⟨h3, h⟩ := Bool.and_eq_true_iff.mp h
    obtain ⟨h4, h5⟩ := Bool.and_eq_true_iff.mp h
    have h1 := of_decide_eq_true h1
    rcases hi with ⟨z, -⟩ | ⟨-, rfl⟩ | ⟨z, -⟩
    · omega
    · exact qh_mmx (zx_w_ok h2) (zx_w_ok h3) (zx_w_ok h4) (zx_w_ok h5) hd hn
    · omega
  | 5 :: p1 :: p2 :: p3 :: p4 :: _, h =>
    obtain ⟨h1, h⟩ := Bool.and_eq_true_iff.mp h
    obtain ⟨h2, h⟩ := Bool.and_eq_true_iff.mp h
    obtain ⟨h3, h⟩ := Bool.and_eq_true_iff.mp h
    obtain ⟨h4, h5⟩ := Bool.and_eq_true_iff.mp h
    have h1 := of_decide_eq_true h1
    rcases hi with ⟨z, -⟩ | ⟨-, rfl⟩ | ⟨z, -⟩
    · omega
    · exact qh_mmn (zx_w_ok h2) (zx_w_ok h3) (zx_w_ok h4) (zx_w_ok h5) hd hn
    · omega
  | 2 :: rk :: ci :: k' :: mc :: ms :: p1 :: p2 :: p3 :: p4 :: mx :: is, h =>
    obtain ⟨h1, h⟩ := Bool.and_eq_true_iff.mp h
    obtain ⟨h2, h⟩ := Bool.and_eq_true_iff.mp h
    have hM : zk_m k' 0 0 mx := zx_mB_ok h1
    rcases hi with ⟨rfl, rfl⟩ | ⟨rfl, rfl⟩ | ⟨rfl, rfl⟩
    · obtain ⟨e1, h⟩ := Bool.and_eq_true_iff.mp h
      obtain ⟨e2, h⟩ := Bool.and_eq_true_iff.mp h
      obtain ⟨e3, h⟩ := Bool.and_eq_true_iff.mp h
      match is, h with
      | _ :: r, h => exact qh_virt hV hn hM (zx_clB_ok e1).1 (zx_clB_ok e1).2 (of_decide_eq_true h) rfl (zx_w_ok h2) (zx_w_ok e2) (zx_w_ok e3) hd
    · obtain ⟨e1, h⟩ := Bool.and_eq_true_iff.mp h
      obtain ⟨e2, hz⟩ := Bool.and_eq_true_iff.mp h
      have e1 : rk = 0 := of_decide_eq_true e1
      subst e1
      exact qh_stat hV hn hM (of_decide_eq_true hz) rfl (zx_w_ok h2) (zx_w_ok e2) hd
    · exact absurd rfl hv3
  | 3 :: rk :: ci :: k' :: mc :: ms :: p1 :: p2 :: p3 :: p4 :: mx :: is, h => exact qh_bad
set_option maxRecDepth 100000 in
set_option maxHeartbeats 4000000 in
theorem qs_I {ct : List qC} (hV : ∀ c ∈ ct, qy_V ex Γ D as tys c) (hT : zk_t) {i : Instr} {len nx : Nat} {aux : List Nat} (hd : decode (zx_bys k) pc = .ok (i, len)) (h : zx_okI k pc i len nx aux = true) : qy_Hok ex Γ D as tys k pc (q_h ct zx_xa0 (i, len, nx, aux)) := by
  have n1 : ∀ (f : Nat → Bool) (g : Nat → qHd), zc1 aux f = true → (∀ i, f i = true → qy_Hok ex Γ D as tys k pc (g i)) → qy_Hok ex Γ D as tys k pc (q_a1 aux g) := by
    intro f g hf hg
    match aux, hf with
    | i :: _, hf => exact hg i hf
  have n2 : ∀ (f : Nat → Nat → Bool) (g : Nat → Nat → qHd), zc2 aux f = true → (∀ i j, f i j = true → qy_Hok ex Γ D as tys k pc (g i j)) → qy_Hok ex Γ D as tys k pc (q_a2 aux g) := by
    intro f g hf hg
    match aux, hf with
    | i :: j :: _, hf => exact hg i j hf
  have one : decide (len = 1 ∧ nx = pc + 1) = true → len = 1 ∧ nx = pc + 1 := fun z => of_decide_eq_true z
  cases i with
  | aload_n j =>
    refine n1 _ _ h fun i hi => ?_
    obtain ⟨h1, rfl, rfl⟩ := of_decide_eq_true hi
    exact qs_loadA (fun hx hb hl kk => lv_aload_n hx hb hd h1 hl kk) (fun hx hb hl kk => lv_aload_nN hx hb hd h1 hl kk)
  | aload j =>
    refine n1 _ _ h fun i hi => ?_
    obtain ⟨rfl, rfl, rfl⟩ := of_decide_eq_true hi
    exact qs_loadA (fun hx hb hl kk => lv_aload hx hb hd hl kk) (fun hx hb hl kk => lv_aloadN hx hb hd hl kk)
  | iload_n j =>
    refine n1 _ _ h fun i hi => ?_
    obtain ⟨h1, rfl, rfl⟩ := of_decide_eq_true hi
    exact qs_loadI (fun hx hb hl kk => lv_iload_n hx hb hd h1 hl kk)
  | iload j =>
    refine n1 _ _ h fun i hi => ?_
    obtain ⟨rfl, rfl, rfl⟩ := of_decide_eq_true hi
    exact qs_loadI (fun hx hb hl kk => lv_iload hx hb hd hl kk)
  | lload_n j =>
    refine n1 _ _ h fun i hi => ?_
    obtain ⟨h1, rfl, rfl⟩ := of_decide_eq_true hi
    exact qs_loadL (fun hx hb hl kk => lv_lload_n hx hb hd h1 hl kk)
  | lload j =>
    refine n1 _ _ h fun i hi => ?_
    obtain ⟨rfl, rfl, rfl⟩ := of_decide_eq_true hi
    exact qs_loadL (fun hx hb hl kk => lv_lload hx hb hd hl kk)
  | istore_n j =>
    refine n1 _ _ h fun i hi => ?_
    obtain ⟨h1, rfl, rfl, h2⟩ := of_decide_eq_true hi
    exact qh_sto1 fun {ρ a v} _ ho hv {p l e R s m args below meth c H locs cells slots Q ls rest} hx hb hl kk => by
      obtain ⟨x, rfl⟩ := qy_isI ho hv
      exact lv_istore_n hx hb hd h1 hl h2 rfl kk
  | istore j =>
    refine n1 _ _ h fun i hi => ?_
    obtain ⟨rfl, rfl, rfl, h2⟩ := of_decide_eq_true hi
    exact qh_sto1 fun {ρ a v} _ ho hv {p l e R s m args below meth c H locs cells slots Q ls rest} hx hb hl kk => by
      obtain ⟨x, rfl⟩ := qy_isI ho hv
      exact lv_istore hx hb hd hl h2 rfl kk
  | astore_n j =>
    refine n1 _ _ h fun i hi => ?_
    obtain ⟨h1, rfl, rfl, h2⟩ := of_decide_eq_true hi
    exact qh_sto1 fun {ρ a v} hex ho hv {p l e R s m args below meth c H locs cells slots Q ls rest} hx hb hl kk => by
      rcases qy_isA hex ho hv with rfl | ⟨q, rfl⟩
      · exact lv_astore_nN hx hb hd h1 hl h2 rfl kk
      · exact lv_astore_n hx hb hd h1 hl h2 rfl kk
  | astore j =>
    refine n1 _ _ h fun i hi => ?_
    obtain ⟨rfl, rfl, rfl, h2⟩ := of_decide_eq_true hi
    exact qh_sto1 fun {ρ a v} hex ho hv {p l e R s m args below meth c H locs cells slots Q ls rest} hx hb hl kk => by
      rcases qy_isA hex ho hv with rfl | ⟨q, rfl⟩
      · exact lv_astoreN hx hb hd hl h2 rfl kk
      · exact lv_astore hx hb hd hl h2 rfl kk
  | lstore_n j =>
    refine n1 _ _ h fun i hi => ?_
    obtain ⟨h1, rfl, rfl, h2⟩ := of_decide_eq_true hi
    exact qh_sto2 fun hx hb hl kk => lv_lstore_n hx hb hd h1 hl h2 rfl kk
  | lstore j =>
    refine n1 _ _ h fun i hi => ?_
    obtain ⟨rfl, rfl, rfl, h2⟩ := of_decide_eq_true hi
    exact qh_sto2 fun hx hb hl kk => lv_lstore hx hb hd hl h2 rfl kk
  | iconst v =>
    refine n1 _ _ h fun n hi => ?_
    obtain ⟨h1, rfl, rfl⟩ := of_decide_eq_true hi
    exact qs_psh fun {p l e R s m args below meth c A H locs cells slots Q ls rest fr} hk C _ kk => lv_iconst C.1 (by rw [← hk]; exact C.2.1) hd h1 kk
  | bipush v =>
    refine n1 _ _ h fun n hi => ?_
    obtain ⟨h1, rfl, rfl⟩ := of_decide_eq_true hi
    exact qs_psh fun {p l e R s m args below meth c A H locs cells slots Q ls rest fr} hk C _ kk => lv_bipush C.1 (by rw [← hk]; exact C.2.1) hd h1 kk
  | sipush v =>
    refine n1 _ _ h fun n hi => ?_
    obtain ⟨h1, rfl, rfl⟩ := of_decide_eq_true hi
    exact qs_psh fun {p l e R s m args below meth c A H locs cells slots Q ls rest fr} hk C _ kk => lv_sipush C.1 (by rw [← hk]; exact C.2.1) hd h1 kk
  | lconst v =>
    refine n1 _ _ h fun n hi => ?_
    obtain ⟨h1, rfl, rfl⟩ := of_decide_eq_true hi
    exact qs_pshl fun {p l e R s m args below meth c A H locs cells slots Q ls rest fr} hk C _ kk => lv_lconst C.1 (by rw [← hk]; exact C.2.1) hd h1 kk
  | ldc idx =>
    obtain ⟨h1, hz⟩ := Bool.and_eq_true_iff.mp h
    obtain ⟨rfl, rfl⟩ := of_decide_eq_true h1
    clear h n1 n2
    match aux, hz with
    | t :: n :: p :: _, h =>
      have h : cond (Nat.beq t 0) (zx_w p (.constant (zx_name k).cls idx (Int32.ofNat n))) (decide ((zx_name k).cls = "DeckChairs$Tokens" ∧ ((idx = 25 ∧ n = 2) ∨ (idx = 27 ∧ n = 3) ∨ (idx = 80 ∧ n = 8)))) = true := h
      show qy_Hok ex Γ D as tys k pc (cond (Nat.beq t 0) (q_psh n (pc + 2)) (q_push (.inr (.inr (.inr (.inl n)))) (pc + 2)))
      cases hb : Nat.beq t 0 with
      | true =>
        rw [hb] at h
        rw [cond_true]
        exact qs_psh (n := n) (nx := pc + 2) fun {p l e R s m args below meth c A H locs cells slots Q ls rest fr} hk C _ kk => lv_ldc (own := (zx_name k).cls) C.1 (by rw [← hk]; exact C.2.1) (by rw [← hk]; exact C.2.2.2.1) (C.2.2.2.2.1 _ (zx_w_ok h)) hd kk
      | false =>
        rw [hb] at h
        obtain ⟨e1, e2⟩ := of_decide_eq_true h
        refine qh_push (v := ex n) (fun _ => rfl) fun {p l e R s m args below meth c A H locs cells slots Q ls rest fr} hk C _ kk => ?_
        have hX := C.2.2.2.2.2.2.1
        have ho : s.vm.findClass "DeckChairs$Tokens" = some m.cls := by rw [← e1, ← hk]; exact C.2.2.2.1
        rcases e2 with ⟨rfl, rfl⟩ | ⟨rfl, rfl⟩ | ⟨rfl, rfl⟩
        · obtain ⟨a, tx, f1, f2⟩ := hX.2.2.2.2.1
          rw [f1] at kk
          exact va_ldcS C.1 (by rw [← hk]; exact C.2.1) ho f2 hd kk
        · obtain ⟨a, tx, f1, f2⟩ := hX.2.2.2.2.2.1
          rw [f1] at kk
          exact va_ldcS C.1 (by rw [← hk]; exact C.2.1) ho f2 hd kk
        · obtain ⟨a, tx, f1, -, -, -, f2⟩ := hX.2.2.2.2.2.2.2
          rw [f1] at kk
          exact va_ldcS C.1 (by rw [← hk]; exact C.2.1) ho f2 hd kk
  | ldc_w idx =>
    obtain ⟨h1, hz⟩ := Bool.and_eq_true_iff.mp h
    obtain ⟨rfl, rfl⟩ := of_decide_eq_true h1
    clear h n1 n2
    match aux, hz with
    | t :: n :: p :: _, h =>
      have h : cond (Nat.beq t 0) (zx_w p (.constant (zx_name k).cls idx (Int32.ofNat n))) false = true := h
      show qy_Hok ex Γ D as tys k pc (cond (Nat.beq t 0) (q_psh n (pc + 3)) q_bad)
      cases hb : Nat.beq t 0 with
      | true =>
        rw [hb] at h
        rw [cond_true]
        exact qs_psh (n := n) (nx := pc + 3) fun {p l e R s m args below meth c A H locs cells slots Q ls rest fr} hk C _ kk => lv_ldcw (own := (zx_name k).cls) C.1 (by rw [← hk]; exact C.2.1) (by rw [← hk]; exact C.2.2.2.1) (C.2.2.2.2.1 _ (zx_w_ok h)) hd kk
      | false => rw [hb] at h; cases h
  | ldc2_w idx =>
    obtain ⟨h1, hz⟩ := Bool.and_eq_true_iff.mp h
    obtain ⟨rfl, rfl⟩ := of_decide_eq_true h1
    have hz1 : zc1 aux (fun n => zc1 (aux.drop 1) fun p => zx_w p (.constantLong (zx_name k).cls idx (Int64.ofNat n))) = true := by
      clear h n1 n2
      match aux, hz with
      | n :: p :: _, h => exact h
    refine n1 _ _ hz1 fun n hi => ?_
    have hp : ∃ p, zx_w p (.constantLong (zx_name k).cls idx (Int64.ofNat n)) = true := by
      cases hq : aux.drop 1 with
      | nil => rw [hq] at hi; cases hi
      | cons p _ => rw [hq] at hi; exact ⟨p, hi⟩
    obtain ⟨p, hp⟩ := hp
    exact qs_pshl fun {p l e R s m args below meth c A H locs cells slots Q ls rest fr} hk C _ kk => lv_ldc2 (own := (zx_name k).cls) C.1 (by rw [← hk]; exact C.2.1) (by rw [← hk]; exact C.2.2.2.1) (C.2.2.2.2.1 _ (zx_w_ok hp)) hd kk
  | iinc j v =>
    refine n2 _ _ h fun i cc hi => ?_
    obtain ⟨rfl, h1, rfl, rfl, h2⟩ := of_decide_eq_true hi
    rw [q_incN_eq]
    exact qh_inc (cc := Int32.ofNat cc) (zy_toInt cc) fun {x p l e R s m args below meth c H locs cells slots Q ls rest} hx hb hl hi kk => by
      obtain ⟨q, hq⟩ := List.getElem?_of_mem (zy_fl_mem hi)
      exact lv_iinc hx hb hd hl hq (by rw [h1]) h2 rfl kk
  | iadd =>
    obtain ⟨rfl, rfl⟩ := one h
    exact qh_bin (op := fun x y => x + y) (S := fun _ => True) (fun hg ha hb h => by obtain ⟨x, y, e1, e2, e3⟩ := q_sum_ok (Or.inl rfl) q_add32 hg ha hb h; exact ⟨x, y, e1, e2, trivial, e3⟩) (fun hx hb _ kk => lv_iadd hx hb hd kk)
  | isub =>
    obtain ⟨rfl, rfl⟩ := one h
    exact qh_bin (op := fun x y => x - y) (S := fun _ => True) (fun hg ha hb h => by obtain ⟨x, y, e1, e2, e3⟩ := q_sum_ok (sg := -1) (Or.inr rfl) q_sub32 hg ha hb h; exact ⟨x, y, e1, e2, trivial, e3⟩) (fun hx hb _ kk => lv_isub hx hb hd kk)
  | imul =>
    obtain ⟨rfl, rfl⟩ := one h
    exact qh_bin (op := fun x y => x * y) (S := fun _ => True) (fun hg ha hb h => by obtain ⟨x, y, e1, e2, e3⟩ := q_mul_ok hg ha hb h; exact ⟨x, y, e1, e2, trivial, e3⟩) (fun hx hb _ kk => lv_imul hx hb hd kk)
  | iand =>
    obtain ⟨rfl, rfl⟩ := one h
    exact qh_anb (qh_bin (op := fun x y => x &&& y) (S := fun _ => True) (fun hg ha hb h => by obtain ⟨x, y, e1, e2, e3⟩ := q_and_ok hg ha hb h; exact ⟨x, y, e1, e2, trivial, e3⟩) (fun hx hb _ kk => lv_iand hx hb hd kk)) (fun hx hb kk => lv_iand hx hb hd kk)
  | ior =>
    obtain ⟨rfl, rfl⟩ := one h
    exact qh_bin (op := fun x y => x ||| y) (S := fun _ => True) (fun hg ha hb h => by obtain ⟨x, y, e1, e2, e3⟩ := q_bit_ok hg ha hb h; exact ⟨x, y, e1, e2, trivial, e3⟩) (fun hx hb _ kk => lv_ior hx hb hd kk)
  | ixor =>
    obtain ⟨rfl, rfl⟩ := one h
    exact qh_bin (op := fun x y => x ^^^ y) (S := fun _ => True) (fun hg ha hb h => by obtain ⟨x, y, e1, e2, e3⟩ := q_bit_ok hg ha hb h; exact ⟨x, y, e1, e2, trivial, e3⟩) (fun hx hb _ kk => lv_ixor hx hb hd kk)
  | ishl =>
    obtain ⟨rfl, rfl⟩ := one h
    exact qh_bin (op := fun x y => x <<< (y &&& 31)) (S := fun _ => True) (fun hg ha hb h => by obtain ⟨x, y, e1, e2, e3⟩ := q_bit_ok hg ha hb h; exact ⟨x, y, e1, e2, trivial, e3⟩) (fun hx hb _ kk => lv_ishl hx hb hd kk)
  | ishr =>
    obtain ⟨rfl, rfl⟩ := one h
    exact qh_bin (op := fun x y => x >>> (y &&& 31)) (S := fun _ => True) (fun hg ha hb h => by obtain ⟨x, y, e1, e2, e3⟩ := q_bit_ok hg ha hb h; exact ⟨x, y, e1, e2, trivial, e3⟩) (fun hx hb _ kk => lv_ishr hx hb hd kk)
  | iushr =>
    obtain ⟨rfl, rfl⟩ := one h
    exact qh_bin (op := fun x y => (x.toUInt32 >>> (y.toUInt32 &&& Int32.toUInt32 31)).toInt32) (S := fun _ => True) (fun hg ha hb h => by obtain ⟨x, y, e1, e2, e3⟩ := q_bit_ok hg ha hb h; exact ⟨x, y, e1, e2, trivial, e3⟩) (fun hx hb _ kk => lv_iushr hx hb hd rfl kk)
  | idiv =>
    obtain ⟨rfl, rfl⟩ := one h
    exact qh_bin (op := fun x y => x / y) (S := fun y => ¬ y = 0) (fun hg ha hb h => q_div_ok hg ha hb h) (fun hx hb hy kk => lv_idiv hx hb hd hy kk)
  | irem =>
    obtain ⟨rfl, rfl⟩ := one h
    exact qh_bin (op := fun x y => x - x / y * y) (S := fun y => ¬ y = 0) (fun hg ha hb h => q_rem_ok hg ha hb h) (fun hx hb hy kk => lv_irem hx hb hd hy kk)
  | ladd =>
    obtain ⟨rfl, rfl⟩ := one h
    exact qh_lop (op := fun x y => x + y) (fun hx hb kk => lv_ladd hx hb hd kk)
  | lmul =>
    obtain ⟨rfl, rfl⟩ := one h
    exact qh_lop (op := fun x y => x * y) (fun hx hb kk => lv_lmul hx hb hd kk)
  | lor =>
    obtain ⟨rfl, rfl⟩ := one h
    exact qh_lop (op := fun x y => x ||| y) (fun hx hb kk => lv_lor hx hb hd kk)
  | lshl =>
    obtain ⟨rfl, rfl⟩ := one h
    exact qh_lsh (op := fun x y => x <<< (y.toInt64 &&& 63)) (fun hx hb kk => lv_lshl hx hb hd rfl kk)
  | i2l =>
    obtain ⟨rfl, rfl⟩ := one h
    exact qh_i2l (op := fun x => x.toInt64) (fun hx hb kk => lv_i2l hx hb hd rfl kk)
  | l2i =>
    obtain ⟨rfl, rfl⟩ := one h
    exact qh_l2i (op := fun x => x.toInt32) (fun hx hb kk => lv_l2i hx hb hd rfl kk)
  | lcmp =>
    obtain ⟨rfl, rfl⟩ := one h
    exact qh_lcmp (fun {x y p l e R s m args below meth c H locs cells slots Q ls rest} hx hb kk => W.lcmp hx hb hd (by rw [q_lg]; exact kk))
  | i2b =>
    obtain ⟨rfl, rfl⟩ := one h
    exact qh_una (op := fun x => x.toInt8.toInt32) (fun hg ha h => q_cv_ok q_b8 q_b8id hg ha h) (fun hx hb kk => lv_i2b hx hb hd rfl kk)
  | i2c =>
    obtain ⟨rfl, rfl⟩ := one h
    exact qh_una (op := fun x => (x.toUInt32 % 65536).toInt32) (fun hg ha h => q_cv_ok q_c16 q_c16id hg ha h) (fun hx hb kk => lv_i2c hx hb hd rfl kk)
  | dup =>
    obtain ⟨rfl, rfl⟩ := one h
    exact qh_stk fun {ρ st s2 sv} hex hf hs {p l e R s m args below meth cd H locs cells slots Q ls} hx hb kk => by
      match st, sv, hs, hf with
      | a :: r, v :: t, ⟨h1, h2⟩, hf =>
        have hf : cond (q_isL a) none (some (a :: a :: r)) = some s2 := hf
        have hc := qy_cat hex h1
        cases hL : q_isL a with
        | true => rw [hL] at hf; cases hf
        | false =>
          rw [hL] at hf hc
          cases hf
          exact lv_dup hx hb hd hc (kk _ ⟨h1, h1, h2⟩)
  | pop =>
    obtain ⟨rfl, rfl⟩ := one h
    exact qh_stk fun {ρ st s2 sv} hex hf hs {p l e R s m args below meth cd H locs cells slots Q ls} hx hb kk => by
      match st, sv, hs, hf with
      | a :: r, v :: t, ⟨h1, h2⟩, hf =>
        have hf : cond (q_isL a) none (some r) = some s2 := hf
        have hc := qy_cat hex h1
        cases hL : q_isL a with
        | true => rw [hL] at hf; cases hf
        | false =>
          rw [hL] at hf hc
          cases hf
          exact lv_pop hx hb hd hc (kk _ h2)
  | dup2 =>
    obtain ⟨rfl, rfl⟩ := one h
    exact qh_stk fun {ρ st s2 sv} hex hf hs {p l e R s m args below meth cd H locs cells slots Q ls} hx hb kk => by
      match st, sv, hs, hf with
      | b :: a :: r, vb :: va :: t, ⟨h1, h2, h3⟩, hf =>
        have hf : cond (q_isL a || q_isL b) none (some (b :: a :: b :: a :: r)) = some s2 := hf
        have hc := qy_cat hex h1
        have hc2 := qy_cat hex h2
        cases hL : q_isL a with
        | true => rw [hL] at hf; cases hf
        | false =>
          cases hL2 : q_isL b with
          | true => rw [hL, hL2] at hf; cases hf
          | false =>
            rw [hL, hL2] at hf
            rw [hL2] at hc
            rw [hL] at hc2
            cases hf
            exact lv_dup2_11 hx hb hd hc hc2 (kk _ ⟨h1, h2, h1, h2, h3⟩)
  | dup_x1 =>
    obtain ⟨rfl, rfl⟩ := one h
    exact qh_stk fun {ρ st s2 sv} hex hf hs {p l e R s m args below meth cd H locs cells slots Q ls} hx hb kk => by
      match st, sv, hs, hf with
      | a :: b :: r, va :: vb :: t, ⟨h1, h2, h3⟩, hf =>
        have hf : cond (q_isL a || q_isL b) none (some (a :: b :: a :: r)) = some s2 := hf
        have hc := qy_cat hex h1
        have hc2 := qy_cat hex h2
        cases hL : q_isL a with
        | true => rw [hL] at hf; cases hf
        | false =>
          cases hL2 : q_isL b with
          | true => rw [hL, hL2] at hf; cases hf
          | false =>
            rw [hL, hL2] at hf
            rw [hL] at hc
            rw [hL2] at hc2
            cases hf
            exact lv_dup_x1 hx hb hd hc hc2 (kk _ ⟨h1, h2, h1, h3⟩)
  | ifCond c off =>
    refine n1 _ _ h fun t hi => ?_
    obtain ⟨h1, rfl, rfl⟩ := of_decide_eq_true hi
    exact qs_if1 hd h1
  | if_icmp c off =>
    refine n1 _ _ h fun t hi => ?_
    obtain ⟨h1, rfl, rfl⟩ := of_decide_eq_true hi
    exact qs_if2 hd h1
  | goto off =>
    refine n1 _ _ h fun t hi => ?_
    obtain ⟨h1, rfl⟩ := of_decide_eq_true hi
    exact qh_goto fun hx hb kk => lv_goto hx hb hd h1 kk
  | tableswitch dflt lo hi offs =>
    clear n1 n2
    match aux, h with
    | d :: ts, h =>
      obtain ⟨h1, h2, h3, b1, b2, b3, b4⟩ := of_decide_eq_true h
      refine qh_tsw hd h1 h2 (fun j t ht => ?_) b1 b2 b3 b4
      have e1 : (ts.map (fun t : Nat => (t : Int)))[j]? = some (t : Int) := by rw [List.getElem?_map, ht]; rfl
      rw [← h3, List.getElem?_map] at e1
      cases e2 : offs.toList[j]? with
      | none => rw [e2] at e1; cases e1
      | some off =>
        rw [e2] at e1
        have e1 : some ((pc : Int) + off) = some (t : Int) := e1
        exact ⟨off, by rw [← Array.getElem?_toList]; exact e2, Option.some.inj e1⟩
  | lookupswitch dflt ps =>
    clear n1 n2
    match aux, h with
    | d :: ts, h =>
      obtain ⟨h1, h2, h3⟩ := of_decide_eq_true h
      exact qh_lsw hd h1 h2 h3
  | getfield idx =>
    obtain ⟨h1, hz⟩ := Bool.and_eq_true_iff.mp h
    obtain ⟨rfl, rfl⟩ := of_decide_eq_true h1
    clear h n1 n2
    match aux, hz with
    | t :: ci :: j :: aux2, h =>
      have h : cond (Nat.beq t 0) (match zx_cl[ci]? with
      | some (_, T, N) => decide (j < N) && (zc1 aux2 fun p => zx_w p (.fieldLink (zx_name k).cls idx (T j).1 (T j).2.1 (T j).2.2.1))
      | none => false) (cond (Nat.beq ci 0) (zx_w j (.fieldLink (zx_name k).cls idx "java/lang/String" "value" "[B")) (zx_w j (.fieldLink (zx_name k).cls idx "java/lang/String" "coder" "B"))) = true := h
      show qy_Hok ex Γ D as tys k pc (cond (Nat.beq t 0) (q_gf ci j (pc + 3)) (q_xgf ci (pc + 3)))
      cases hb : Nat.beq t 0 with
      | true =>
        rw [hb] at h
        cases hc : zx_cl[ci]? with
        | none => rw [hc] at h; cases h
        | some q =>
          obtain ⟨C, T, N⟩ := q
          rw [hc] at h
          obtain ⟨h2, h3⟩ := Bool.and_eq_true_iff.mp h
          cases aux2 with
          | nil => cases h3
          | cons p _ => exact qh_gf hc (hT.1 ci C T N hc) (of_decide_eq_true h2) (zx_w_ok h3) hd rfl
      | false =>
        rw [hb] at h
        cases hb2 : Nat.beq ci 0 with
        | true =>
          rw [hb2] at h
          exact qh_xgf (Or.inl ⟨Nat.eq_of_beq_eq_true hb2, zx_w_ok h⟩) hd rfl
        | false =>
          rw [hb2] at h
          exact qh_xgf (Or.inr ⟨Nat.ne_of_beq_eq_false hb2, zx_w_ok h⟩) hd rfl
  | putfield idx =>
    obtain ⟨h1, hz⟩ := Bool.and_eq_true_iff.mp h
    obtain ⟨rfl, rfl⟩ := of_decide_eq_true h1
    clear h n1 n2
    match aux, hz with
    | ci :: j :: t :: aux2, h =>
      have h : (match zx_cl[ci]? with
      | some (_, T, N) => decide (j < N) && ((zc1 aux2 fun p => zx_w p (.fieldLink (zx_name k).cls idx (T j).1 (T j).2.1 (T j).2.2.1)) && ((match parseFieldDescriptor (T j).2.2.1 with | some ty => zx_tkB ty t | none => false) && decide ((T j).2.2.2 = false ∨ ((T j).2.2.2 = true ∧ (zx_name k).name = "<init>" ∧ (T j).1 = (zx_name k).cls))))
      | none => false) = true := h
      show qy_Hok ex Γ D as tys k pc (q_pf ci j t (pc + 3))
      cases hc : zx_cl[ci]? with
      | none => rw [hc] at h; cases h
      | some q =>
        obtain ⟨C, T, N⟩ := q
        rw [hc] at h
        obtain ⟨h2, h⟩ := Bool.and_eq_true_iff.mp h
        obtain ⟨h3, h⟩ := Bool.and_eq_true_iff.mp h
        obtain ⟨h4, h5⟩ := Bool.and_eq_true_iff.mp h
        cases hp : parseFieldDescriptor (T j).2.2.1 with
        | none => rw [hp] at h4; cases h4
        | some ty =>
          rw [hp] at h4
          cases aux2 with
          | nil => cases h3
          | cons p _ => exact qh_pf hc (hT.1 ci C T N hc) (of_decide_eq_true h2) (zx_w_ok h3) hp (zx_tkB_ok h4) (of_decide_eq_true h5) hd rfl
  | getstatic idx =>
    obtain ⟨h1, hz⟩ := Bool.and_eq_true_iff.mp h
    obtain ⟨rfl, rfl⟩ := of_decide_eq_true h1
    clear h n1 n2
    match aux, hz with
    | t :: p :: _, h =>
      have h : cond (Nat.beq t 0) (zx_w p (.fieldLink (zx_name k).cls idx "DeckChairs$Hinge" "ADDED" "[I")) (cond (Nat.beq t 1) (zx_w p (.fieldLink (zx_name k).cls idx "java/lang/String" "COMPACT_STRINGS" "Z")) (zx_w p (.fieldLink (zx_name k).cls idx "jdk/internal/util/Preconditions" "SIOOBE_FORMATTER" "Ljava/util/function/BiFunction;"))) = true := h
      show qy_Hok ex Γ D as tys k pc (cond (Nat.beq t 0) (q_push (.inr (.inr (.inr (.inl 0)))) (pc + 3)) (cond (Nat.beq t 1) (q_push (.inl 1) (pc + 3)) (q_push (.inr (.inr (.inr (.inl 7)))) (pc + 3))))
      cases hb : Nat.beq t 0 with
      | true =>
        rw [hb] at h
        exact qh_push (v := ex 0) (fun _ => rfl) fun {p l e R s m args below meth c A H locs cells slots Q ls rest fr} hk C hS kk => va_gets (own := (zx_name k).cls) C.1 (by rw [← hk]; exact C.2.1) C.2.2.2.2.2.2.1.2.2.1.1 hS (by rw [← hk]; exact C.2.2.2.1) (C.2.2.2.2.1 _ (zx_w_ok h)) (fun _ z => z) hd kk
      | false =>
        rw [hb] at h
        cases hb2 : Nat.beq t 1 with
        | true =>
          rw [hb2] at h
          exact qh_push (v := .int 1) (fun ρ => qy_lit rfl) fun {p l e R s m args below meth c A H locs cells slots Q ls rest fr} hk C hS kk => va_gets (own := (zx_name k).cls) C.1 (by rw [← hk]; exact C.2.1) C.2.2.2.2.2.2.1.2.2.1.2.1 hS (by rw [← hk]; exact C.2.2.2.1) (C.2.2.2.2.1 _ (zx_w_ok h)) (fun _ z => z) hd kk
        | false =>
          rw [hb2] at h
          exact qh_push (v := ex 7) (fun _ => rfl) fun {p l e R s m args below meth c A H locs cells slots Q ls rest fr} hk C hS kk => va_gets (own := (zx_name k).cls) C.1 (by rw [← hk]; exact C.2.1) C.2.2.2.2.2.2.1.2.2.1.2.2 hS (by rw [← hk]; exact C.2.2.2.1) (C.2.2.2.2.1 _ (zx_w_ok h)) (fun _ z => z) hd kk
  | arraylength =>
    obtain ⟨rfl, rfl⟩ := one h
    exact qh_alen hd rfl
  | iaload =>
    obtain ⟨rfl, rfl⟩ := one h
    refine qh_ald (ts := fun t => Nat.beq t 0) (nx := pc + 1) (fun t ht => ?_) (fun {t} ht {p l e R s m args below meth c H locs cells slots Q ls rest ws q0 t0 a cA n f i} hx hb hK hP h1 h2 h3 kk => ?_) (fun {t} ht {p l e R s m args below meth c H locs cells slots Q ls rest A a n f i} hx hb hT hS h3 kk => ?_)
    · have e : t = 0 := Nat.eq_of_beq_eq_true ht
      omega
    · have e : t = 0 := Nat.eq_of_beq_eq_true ht
      subst e
      exact va_iald hx hb hK hP q0 t0 h1 h2 h3 hd kk
    · have e : t = 0 := Nat.eq_of_beq_eq_true ht
      subst e
      exact va_ti hx hb hT hS h3 rfl hd kk
  | baload =>
    obtain ⟨rfl, rfl⟩ := one h
    refine qh_ald (fun t ht => ?_) (fun {t} ht {p l e R s m args below meth c H locs cells slots Q ls rest ws q0 t0 a cA n f i} hx hb hK hP h1 h2 h3 kk => ?_) (fun {t} ht {p l e R s m args below meth c H locs cells slots Q ls rest A a n f i} hx hb hT hS h3 kk => ?_)
    · rcases Bool.or_eq_true_iff.mp (show (Nat.beq t 1 || Nat.beq t 2) = true from ht) with z | z
      · have e : t = 1 := Nat.eq_of_beq_eq_true z
        omega
      · have e : t = 2 := Nat.eq_of_beq_eq_true z
        omega
    · rcases Bool.or_eq_true_iff.mp (show (Nat.beq t 1 || Nat.beq t 2) = true from ht) with z | z
      · have e : t = 1 := Nat.eq_of_beq_eq_true z
        subst e
        exact va_bald hx hb hK hP q0 t0 h1 h2 h3 hd kk
      · have e : t = 2 := Nat.eq_of_beq_eq_true z
        subst e
        exact va_zald hx hb hK hP q0 t0 h1 h2 h3 hd kk
    · rcases Bool.or_eq_true_iff.mp (show (Nat.beq t 1 || Nat.beq t 2) = true from ht) with z | z
      · have e : t = 1 := Nat.eq_of_beq_eq_true z
        subst e
        exact va_tb hx hb hT hS h3 rfl hd kk
      · have e : t = 2 := Nat.eq_of_beq_eq_true z
        subst e
        exact va_tz hx hb hT hS h3 rfl hd kk
  | laload =>
    obtain ⟨rfl, rfl⟩ := one h
    exact qh_lald hd rfl
  | iastore =>
    obtain ⟨rfl, rfl⟩ := one h
    refine qh_ast (ts := fun t => Nat.beq t 0) (nx := pc + 1) (fun {t} ht {p l e R s m args below meth c H locs cells slots Q ls rest ws A q0 t0 a cA n f i x} hx hb hK hP hD hS h1 h2 h3 kk => ?_)
    have e : t = 0 := Nat.eq_of_beq_eq_true ht
    subst e
    exact va_iast hx hb hK hP hD hS q0 t0 h1 h2 h3 hd kk
  | bastore =>
    obtain ⟨rfl, rfl⟩ := one h
    refine qh_ast (ts := zx_bx) (nx := pc + 1) (fun {t} ht {p l e R s m args below meth c H locs cells slots Q ls rest ws A q0 t0 a cA n f i x} hx hb hK hP hD hS h1 h2 h3 kk => ?_)
    rcases Bool.or_eq_true_iff.mp (show (Nat.beq t 1 || Nat.beq t 2) = true from ht) with z | z
    · have e : t = 1 := Nat.eq_of_beq_eq_true z
      subst e
      exact va_bast hx hb hK hP hD hS q0 t0 h1 h2 h3 hd kk
    · have e : t = 2 := Nat.eq_of_beq_eq_true z
      subst e
      exact va_zast hx hb hK hP hD hS q0 t0 h1 h2 h3 hd kk
  | lastore =>
    obtain ⟨rfl, rfl⟩ := one h
    exact qh_last hd rfl
  | invokevirtual idx =>
    obtain ⟨h1, hz⟩ := Bool.and_eq_true_iff.mp h
    have h1 : len = 3 := of_decide_eq_true h1
    subst h1
    exact qs_call hV hT hd (Or.inl ⟨rfl, rfl⟩) (by decide) hz
  | invokestatic idx =>
    obtain ⟨h1, hz⟩ := Bool.and_eq_true_iff.mp h
    have h1 : len = 3 := of_decide_eq_true h1
    subst h1
    exact qs_call hV hT hd (Or.inr (Or.inl ⟨rfl, rfl⟩)) (by decide) hz
  | ireturn =>
    obtain ⟨h1, hz⟩ := Bool.and_eq_true_iff.mp h
    have h1 : len = 1 := of_decide_eq_true h1
    subst h1
    refine n1 _ _ hz fun t hi => ?_
    exact qh_ret hd (zx_rkB_ok hi)
  | lreturn =>
    obtain ⟨rfl, h2⟩ := of_decide_eq_true (show decide (len = 1 ∧ (zx_info k).2.1 = some .long) = true from h)
    exact qh_lret hd h2
  | return_ =>
    obtain ⟨rfl, h2⟩ := of_decide_eq_true (show decide (len = 1 ∧ (zx_info k).2.1 = none) = true from h)
    exact qh_vret hd h2
  | _ => first | exact qh_bad | cases h
theorem qs_E {ct : List qC} (hV : ∀ c ∈ ct, qy_V ex Γ D as tys c) (hT : zk_t) {e : zx_RI} (h : zx_ok k pc e = true) : qy_Hok ex Γ D as tys k pc (q_h ct zx_xa0 e) := by
  obtain ⟨i, len, nx, aux⟩ := e
  by_cases hi : i = .nop
  · subst hi
    exact qh_bad
  · have h2 : (decide (decode (zx_bys k) pc = .ok (i, len)) && zx_okI k pc i len nx aux) = true := by
      cases i <;> first | exact h | exact absurd rfl hi
    obtain ⟨h3, h4⟩ := Bool.and_eq_true_iff.mp h2
    exact qs_I hV hT (of_decide_eq_true h3) h4
theorem qs_ent {ct : List qC} (hV : ∀ c ∈ ct, qy_V ex Γ D as tys c) (hT : zk_t) (hA : zk_a) : qy_Hok ex Γ D as tys k pc (q_ent ct zx_xa0 k pc) := by
  unfold q_ent
  cases h : (zx_code.getD k [])[pc]? with
  | none => exact qh_bad
  | some e => exact qs_E hV hT (hA k pc e h)
theorem qs_run {ct : List qC} (hV : ∀ c ∈ ct, qy_V ex Γ D as tys c) (hT : zk_t) (hA : zk_a) : ∀ n, qy_Snd ex Γ D as tys (q_run ct zx_xa0 n)
  | 0 => by
    intro fr g w lo st pc outs h
    cases h
  | n + 1 => by
    intro fr g w lo st pc outs h
    have h : cond (q_mem pc fr.2.2) (some [(g, w, .inr (pc, lo, st))]) (q_ent ct zx_xa0 fr.2.1 pc (q_run ct zx_xa0 n) fr g w lo st pc) = some outs := h
    rcases q_if h with ⟨hb, h1⟩ | ⟨hb, h1⟩
    · cases h1
      intro _ fc ρ p l e R s m args below meth cd A ws H locs cs sl ls sv Q Cx Dy hl hs hret
      exact (hret.here (o := (g, w, .inr (pc, lo, st))) List.mem_cons_self qe.rf Dy).2 pc lo st rfl ls sv hl hs
    · exact qs_ent hV hT hA (q_run ct zx_xa0 n) (qs_run hV hT hA n) fr g w lo st outs rfl h1
theorem qs_go {ct : List qC} (hV : ∀ c ∈ ct, qy_V ex Γ D as tys c) (hT : zk_t) (hA : zk_a) (n : Nat) : qy_Snd ex Γ D as tys (q_go ct zx_xa0 n) := by
  intro fr g w lo st pc outs h
  exact qs_ent hV hT hA (q_run ct zx_xa0 n) (qs_run hV hT hA n) fr g w lo st outs rfl h
end QR2
