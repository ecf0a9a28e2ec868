/-! at the law's entry: what was there before (by wip/p44/gen3.py) -/
def R_law : String := "DeckChairsLaw"
def lw_P (b : Addr) (xs : List Int32) (args : Array Value) (s : State) : Prop := args = #[.ref b] ∧ s.IntsAt b xs ∧ xs.length ≤ 3072 ∧ (Jvm.Cond.and given_1 narrow_1).before args s = true
def lw_Q (_ : Array Value) (s : State) (o : Outcome) (t : State) : Prop := o = .returned (some (.int 1)) ∧ Framed s o t [] 600000 7302250
def lw_Z (below : List Frame) (a : Array Value) (s : State) : State → Prop := fun t => ∃ o, t.status = .running ∧ Ended t below o ∧ lw_Q a s o t
/-- the law's own end, with 1 on the stack, nothing written that was there before, its room as the claim has it -/
theorem lw_ret {p : Program} {l : Launch} {e : Env} {s : State} {m : MethodId} {below : List Frame} {meth : Method} {c : Code} {b : Nat} (hx : p.tables.exec = Jvm.exec) (hb : c.code = code) (hr : meth.sig.returnType = ret) (hlocks : meth.locks = false) {pc : Nat} {H : Heap} {ls : Array Slot} (hdg : decode code pc = .ok (.ireturn, 1)) : W p l e room_1 s m #[Value.ref b] below meth c H [] 600000 7302250 (lw_Z below #[Value.ref b] s) (F0 m pc ls [.int 1]) := by
  intro T hT X
  obtain ⟨fs, hret, hrun, hended, hW, hframe⟩ := X.leave (v := some (.int 1)) (hlocks := hlocks) (fun h => by rw [hr] at h; cases h)
  have hmeth' : T.vm.method? m = some meth := X.method'
  refine ⟨T.setFrames fs, ?_, .returned (some (.int 1)), hrun, hended, rfl, ⟨_, rfl⟩, hW, hframe⟩
  jvm_step X.here [X.here.top, hx, hb, hdg, hmeth', hr, ret, narrow_b1]
  (try refine ⟨rfl, ?_⟩); (try refine ⟨rfl, ?_⟩)
  first | (intro acts; rw [hret _ acts rfl rfl rfl]) | rw [hret _ _ rfl rfl rfl]
  exact Steps.refl _
/-- what holds at the law's entry: the machine, the code, the tables' words (any of lw_tbl by 'hts w (by decide +kernel)'), the script of L ints xs at the cell b, what the Statement gives of the start (any of its parts by flat_of_before) -/
def lw_At (p : Program) (s : State) (m : MethodId) (meth : Method) (c : Code) (b L : Nat) (xs : Nat → Int32) : Prop :=
  p.tables.exec = Jvm.exec ∧ c.code = code ∧ meth.sig.returnType = ret ∧ c.maxLocals = 4 ∧ s.vm.findClass R_law = some m.cls ∧ (∀ w ∈ lw_tbl, w.before #[Value.ref b] s = true) ∧ va_X b L xs s s.heap ∧ b < s.heap.size ∧ meth.locks = false ∧ (Jvm.Cond.and given_1 narrow_1).before #[Value.ref b] s = true
theorem zq_ins : ∀ (ci : Nat) (q : vw_C), zx_cl[ci]? = some q → ∃ n, Jvm.Cond.instantiable q.1 n ∈ zx_tb := by
  intro ci q h
  match ci, h with
  | 0, h => cases h; exact ⟨4, zx_w_ok (i := 519) (by decide +kernel)⟩
  | 1, h => cases h; exact ⟨7, zx_w_ok (i := 273) (by decide +kernel)⟩
  | 2, h => cases h; exact ⟨11, zx_w_ok (i := 540) (by decide +kernel)⟩
  | 3, h => cases h; exact ⟨2, zx_w_ok (i := 448) (by decide +kernel)⟩
  | 4, h => cases h; exact ⟨6, zx_w_ok (i := 146) (by decide +kernel)⟩
  | 5, h => cases h; exact ⟨3, zx_w_ok (i := 415) (by decide +kernel)⟩
  | 6, h => cases h; exact ⟨9, zx_w_ok (i := 372) (by decide +kernel)⟩
  | 7, h => cases h; exact ⟨11, zx_w_ok (i := 478) (by decide +kernel)⟩
  | 8, h => cases h; exact ⟨1, zx_w_ok (i := 421) (by decide +kernel)⟩
  | 9, h => cases h; exact ⟨8, zx_w_ok (i := 152) (by decide +kernel)⟩
  | 10, h => cases h; exact ⟨13, zx_w_ok (i := 267) (by decide +kernel)⟩
  | 11, h => cases h; exact ⟨16, zx_w_ok (i := 138) (by decide +kernel)⟩
  | 12, h => cases h; exact ⟨60, zx_w_ok (i := 1360) (by decide +kernel)⟩
  | n + 13, h => cases h
def zq_l0 : List Nat := [1, 1, 0, 0, 3, 1, 3, 0, 2, 1, 1, 1]
def zq_l4 : List Nat := [99, 104, 97, 105, 114, 32, 32, 32, 115, 105, 116, 116, 101, 114, 32, 32, 104, 97, 100, 32, 32, 32, 32, 32, 103, 117, 115, 116, 32, 32, 32, 32, 100, 114, 97, 119, 32, 32, 32, 32, 115, 104, 117, 116, 32, 32, 32, 32, 112, 117, 114, 115, 101, 32, 32, 32, 111, 114, 32, 32, 32, 32, 32, 32]
def zq_l5 : List Nat := [97, 110, 100, 32, 32, 32, 32, 32, 110, 111, 116, 32, 32, 32, 32, 32, 115, 116, 114, 105, 112, 101, 115, 32, 108, 105, 107, 101, 115, 32, 32, 32, 97, 108, 111, 110, 101, 32, 32, 32, 115, 97, 116, 32, 32, 32, 32, 32, 115, 97, 110, 100, 32, 32, 32, 32, 104, 111, 117, 114, 32, 32, 32, 32]
def zq_l10 : List Nat := [59, 40, 41, 60, 62, 61, 43, 45, 42, 47, 37]
theorem zq_f0 : ∀ j, j < 12 → Jvm.Cond.eq (.elem (.static "DeckChairs$Hinge" "ADDED" "[I") (.int (Int32.ofNat j))) (.int (Int32.ofNat (zq_l0.getD j 0))) ∈ flatC (Jvm.Cond.and given_1 narrow_1) := by decide +kernel
theorem zq_f4 : ∀ j, j < 64 → Jvm.Cond.eq (.elem (.field (.string "DeckChairs$Tokens" 25) "java/lang/String" "value" "[B") (.int (Int32.ofNat j))) (.int ((zq_l4.map Int32.ofNat).getD j 0)) ∈ flatC (Jvm.Cond.and given_1 narrow_1) := by decide +kernel
theorem zq_f5 : ∀ j, j < 64 → Jvm.Cond.eq (.elem (.field (.string "DeckChairs$Tokens" 27) "java/lang/String" "value" "[B") (.int (Int32.ofNat j))) (.int ((zq_l5.map Int32.ofNat).getD j 0)) ∈ flatC (Jvm.Cond.and given_1 narrow_1) := by decide +kernel
theorem zq_f10 : ∀ j, j < 11 → Jvm.Cond.eq (.elem (.field (.string "DeckChairs$Tokens" 80) "java/lang/String" "value" "[B") (.int (Int32.ofNat j))) (.int ((zq_l10.map Int32.ofNat).getD j 0)) ∈ flatC (Jvm.Cond.and given_1 narrow_1) := by decide +kernel
def zq_tm (i : Nat) : Jvm.Term := .string "DeckChairs$Tokens" (if i = 0 then 25 else if i = 1 then 27 else 80)
theorem zq_Tc {ty : FieldType} {t N : Nat} {f g : Nat → Value} {A : Nat → Prop} {U : State} {H : Heap} (h : va_T ty t N f A U H) (hfg : ∀ j, j < N → f j = g j) : va_T ty t N g A U H := by
  obtain ⟨cell, h1, h2, h3, h4, h5, h6, h7⟩ := h
  exact ⟨cell, h1, h2, h3, h4, h5, fun j hj => by rw [h6 j hj, hfg j hj], h7⟩
theorem zq_mp (ρ : Nat → Int32) : ∀ (l : List Nat) (j : Nat), j < l.length → zy_c ρ ((l.map (fun n => (.inl n : zx_V))).getD j zx_top) = .int (Int32.ofNat (l.getD j 0))
  | [], j, h => absurd h (Nat.not_lt_zero _)
  | a :: r, 0, h => rfl
  | a :: r, j + 1, h => by
    have z := zq_mp ρ r j (Nat.lt_of_succ_lt_succ h)
    simpa using z
theorem zq_gm : ∀ (l : List Nat) (j : Nat), j < l.length → (l.map Int32.ofNat).getD j 0 = Int32.ofNat (l.getD j 0)
  | [], j, h => absurd h (Nat.not_lt_zero _)
  | a :: r, 0, h => rfl
  | a :: r, j + 1, h => by
    have z := zq_gm r j (Nat.lt_of_succ_lt_succ h)
    simpa using z
set_option maxRecDepth 100000 in
theorem zq_xa0 : zx_xa0 = [(0, 0, zq_l0.map (fun n => .inl n)), (4, 1, zq_l4.map (fun n => .inl n)), (5, 1, zq_l5.map (fun n => .inl n)), (10, 1, zq_l10.map (fun n => .inl n))] := rfl
theorem zq_m3 {α : Type} {q a b c : α} (h : q ∈ [a, b, c]) : q = a ∨ q = b ∨ q = c := by simpa using h
theorem zq_m4 {α : Type} {q a b c d : α} (h : q ∈ [a, b, c, d]) : q = a ∨ q = b ∨ q = c ∨ q = d := by simpa using h
set_option maxHeartbeats 4000000 in
set_option maxRecDepth 100000 in
/-- what was there before the law -/
theorem zq_X {p : Program} {s : State} {m : MethodId} {meth : Method} {c : Code} {b L : Nat} {xs : Nat → Int32} (C0 : lw_At p s m meth c b L xs) : ∃ ex : Nat → Value, ex 1 = .ref b ∧ ∀ ρ : Nat → Int32, zy_X zx_xa0 ρ ex (fun q => s.heap.size ≤ q) s s.heap := by
  obtain ⟨hx, hb, hr, hml, hown, hts, hX, hbl, hlocks, hgv⟩ := C0
  have hs := flat_of_before _ hgv
  have hA : ∀ a : Nat, a < s.heap.size → ¬ (fun q : Nat => s.heap.size ≤ q) a := fun a h => Nat.not_le.mpr h
  obtain ⟨tA, ht1, ht2⟩ := va_Tof (args := #[Value.ref b]) (s := s) (tm := .static "DeckChairs$Hinge" "ADDED" "[I") (ty := .int) (N := 12) (f := fun j => .int (Int32.ofNat (zq_l0.getD j 0))) (A := fun q : Nat => s.heap.size ≤ q) (by decide) (hs _ (by decide +kernel)) (va_eqt (hs _ (by decide +kernel))) (fun j hj => va_eqt (hs _ (zq_f0 j hj))) hA
  have z0 := va_Zref (args := #[Value.ref b]) (C := "DeckChairs$Hinge") (n := "ADDED") (d := "[I") (A := fun q : Nat => s.heap.size ≤ q) (hts _ (List.mem_of_getElem? (i := 464) (by decide +kernel))) (hts _ (List.mem_of_getElem? (i := 129) (by decide +kernel))) ht1 hA
  have z1 := va_Zof (args := #[Value.ref b]) (C := "java/lang/String") (n := "COMPACT_STRINGS") (d := "Z") (v := .int 1) (A := fun q : Nat => s.heap.size ≤ q) (hts _ (List.mem_of_getElem? (i := 171) (by decide +kernel))) (hts _ (List.mem_of_getElem? (i := 119) (by decide +kernel))) (va_eqt (hs _ (by decide +kernel))) hA
  have z2 := va_Zqof (args := #[Value.ref b]) (C := "jdk/internal/util/Preconditions") (n := "SIOOBE_FORMATTER") (d := "Ljava/util/function/BiFunction;") (A := fun q : Nat => s.heap.size ≤ q) (hts _ (List.mem_of_getElem? (i := 187) (by decide +kernel))) (hts _ (List.mem_of_getElem? (i := 121) (by decide +kernel))) (hs _ (by decide +kernel)) hA
  obtain ⟨vF, hvF, z2⟩ : ∃ v : Value, (v = .null ∨ ∃ a, v = .ref a) ∧ va_Z "jdk/internal/util/Preconditions" "SIOOBE_FORMATTER" "Ljava/util/function/BiFunction;" v (fun q : Nat => s.heap.size ≤ q) s s.heap := by
    rcases z2 with z | ⟨t, z⟩
    · exact ⟨_, Or.inl rfl, z⟩
    · exact ⟨_, Or.inr ⟨t, rfl⟩, z⟩
  have c2 : ∀ i, i < 3 → i = 0 ∨ i = 1 ∨ i = 2 := fun i hi => by omega
  obtain ⟨adK, adV, hSt, hKe⟩ := vk_Sof (args := #[Value.ref b]) (s := s) (N := 3) (tm := zq_tm) (len := [64, 64, 11]) (byt := [zq_l4.map Int32.ofNat, zq_l5.map Int32.ofNat, zq_l10.map Int32.ofNat]) (A := fun q : Nat => s.heap.size ≤ q)
    (fun i hi => by rcases c2 i hi with rfl | rfl | rfl <;> decide)
    (fun i hi => by rcases c2 i hi with rfl | rfl | rfl <;> exact hs _ (by decide +kernel))
    (fun i hi => by rcases c2 i hi with rfl | rfl | rfl <;> exact hs _ (by decide +kernel))
    (fun i hi => by rcases c2 i hi with rfl | rfl | rfl <;> exact hs _ (by decide +kernel))
    (fun i hi => by rcases c2 i hi with rfl | rfl | rfl <;> exact hs _ (by decide +kernel))
    (fun i hi j hj => by
      rcases c2 i hi with rfl | rfl | rfl
      · exact hs _ (zq_f4 j hj)
      · exact hs _ (zq_f5 j hj)
      · exact hs _ (zq_f10 j hj))
    (fun i j hi hj hij => by
      rcases c2 i hi with rfl | rfl | rfl <;> rcases c2 j hj with rfl | rfl | rfl <;> first | exact absurd rfl hij | exact Or.inl (hs _ (by decide +kernel)) | exact Or.inr (hs _ (by decide +kernel))) hA
  obtain ⟨k1, k2, k3, k4⟩ := hSt.1 0 (by omega)
  obtain ⟨j1, j2, j3, j4⟩ := hSt.1 1 (by omega)
  obtain ⟨i1, i2, i3, i4⟩ := hSt.1 2 (by omega)
  refine ⟨fun j => if j = 0 then .ref tA else if j = 1 then .ref b else if j = 2 then .ref (adK 0) else if j = 3 then .ref (adK 1) else if j = 4 then .ref (adV 0) else if j = 5 then .ref (adV 1) else if j = 7 then vF else if j = 8 then .ref (adK 2) else if j = 10 then .ref (adV 2) else .null, rfl, fun xs => ?_⟩
  have a0 : va_T (zx_ft 0) tA (zq_l0.map (fun n => (.inl n : zx_V))).length (fun i => zy_c xs ((zq_l0.map (fun n => (.inl n : zx_V))).getD i zx_top)) (fun q : Nat => s.heap.size ≤ q) s s.heap := zq_Tc ht2 (fun j hj => (zq_mp xs zq_l0 j hj).symm)
  have a4 : va_T (zx_ft 1) (adV 0) (zq_l4.map (fun n => (.inl n : zx_V))).length (fun i => zy_c xs ((zq_l4.map (fun n => (.inl n : zx_V))).getD i zx_top)) (fun q : Nat => s.heap.size ≤ q) s s.heap := zq_Tc k4 (fun j hj => by rw [zq_mp xs zq_l4 j hj]; show Value.int ((zq_l4.map Int32.ofNat).getD j 0) = _; rw [zq_gm zq_l4 j hj])
  have a5 : va_T (zx_ft 1) (adV 1) (zq_l5.map (fun n => (.inl n : zx_V))).length (fun i => zy_c xs ((zq_l5.map (fun n => (.inl n : zx_V))).getD i zx_top)) (fun q : Nat => s.heap.size ≤ q) s s.heap := zq_Tc j4 (fun j hj => by rw [zq_mp xs zq_l5 j hj]; show Value.int ((zq_l5.map Int32.ofNat).getD j 0) = _; rw [zq_gm zq_l5 j hj])
  have a10 : va_T (zx_ft 1) (adV 2) (zq_l10.map (fun n => (.inl n : zx_V))).length (fun i => zy_c xs ((zq_l10.map (fun n => (.inl n : zx_V))).getD i zx_top)) (fun q : Nat => s.heap.size ≤ q) s s.heap := zq_Tc i4 (fun j hj => by rw [zq_mp xs zq_l10 j hj]; show Value.int ((zq_l10.map Int32.ofNat).getD j 0) = _; rw [zq_gm zq_l10 j hj])
  have isC : ∀ (l : List Nat), ∀ x ∈ l.map (fun n => (.inl n : zx_V)), zx_isC x = true := by
    intro l x hx
    obtain ⟨n, -, rfl⟩ := List.mem_map.mp hx
    rfl
  have rest : ∀ xa : List (Nat × Nat × List zx_V), (∀ q ∈ xa, ∃ a, (fun j : Nat => if j = 0 then Value.ref tA else if j = 1 then .ref b else if j = 2 then .ref (adK 0) else if j = 3 then .ref (adK 1) else if j = 4 then .ref (adV 0) else if j = 5 then .ref (adV 1) else if j = 7 then vF else if j = 8 then .ref (adK 2) else if j = 10 then .ref (adV 2) else .null) q.1 = .ref a ∧ (∀ x ∈ q.2.2, zx_isC x = true) ∧ va_T (zx_ft q.2.1) a q.2.2.length (fun i => zy_c xs (q.2.2.getD i zx_top)) (fun q : Nat => s.heap.size ≤ q) s s.heap) → zy_X xa xs (fun j : Nat => if j = 0 then Value.ref tA else if j = 1 then .ref b else if j = 2 then .ref (adK 0) else if j = 3 then .ref (adK 1) else if j = 4 then .ref (adV 0) else if j = 5 then .ref (adV 1) else if j = 7 then vF else if j = 8 then .ref (adK 2) else if j = 10 then .ref (adV 2) else .null) (fun q : Nat => s.heap.size ≤ q) s s.heap := by
    intro xa hxa
    refine ⟨fun j => ?_, hxa, ⟨z0, z1, z2⟩, fun j hj => ?_, ⟨adK 0, "chair   sitter  had     gust    draw    shut    purse   or      ", rfl, vk_R.of (A := #[Value.ref b]) (hts _ (List.mem_of_getElem? (i := 157) (by decide +kernel))) (hKe 0 (by omega))⟩, ⟨adK 1, "and     not     stripes likes   alone   sat     sand    hour    ", rfl, vk_R.of (A := #[Value.ref b]) (hts _ (List.mem_of_getElem? (i := 158) (by decide +kernel))) (hKe 1 (by omega))⟩, va_Nw.of (A := #[Value.ref b]) rfl (hts _ (List.mem_of_getElem? (i := 465) (by decide +kernel))), ⟨adK 2, ";()<>=+-*/%", rfl, i1, i3, i2, vk_R.of (A := #[Value.ref b]) (hts _ (List.mem_of_getElem? (i := 743) (by decide +kernel))) (hKe 2 (by omega))⟩⟩
    · dsimp only
      split
      · exact Or.inr ⟨_, rfl⟩
      split
      · exact Or.inr ⟨_, rfl⟩
      split
      · exact Or.inr ⟨_, rfl⟩
      split
      · exact Or.inr ⟨_, rfl⟩
      split
      · exact Or.inr ⟨_, rfl⟩
      split
      · exact Or.inr ⟨_, rfl⟩
      split
      · exact hvF
      split
      · exact Or.inr ⟨_, rfl⟩
      split
      · exact Or.inr ⟨_, rfl⟩
      · exact Or.inl rfl
    · rcases hj with rfl | rfl
      · exact ⟨adK 0, rfl, k1, k3, k2⟩
      · exact ⟨adK 1, rfl, j1, j3, j2⟩
  refine rest _ (fun q hq => ?_)
  rw [zq_xa0] at hq
  rcases zq_m4 hq with rfl | rfl | rfl | rfl
  · exact ⟨tA, rfl, isC _, a0⟩
  · exact ⟨adV 0, rfl, isC _, a4⟩
  · exact ⟨adV 1, rfl, isC _, a5⟩
  · exact ⟨adV 2, rfl, isC _, a10⟩
