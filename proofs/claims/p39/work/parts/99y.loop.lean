/-! the law's loop (by program: wip/p44/emloop2.py) -/
/-- a world of the class, of the reference -/
def zKC (ex : Nat → Value) (as : List Nat) (tys : List (ClassId × FieldType)) (t : Int) (ws : va_W) : Prop := hl_I ex as tys zΦ zIA 42 t ws ∨ hl_I ex as tys zΦ zIB 42 t ws
def zKR (ex : Nat → Value) (as : List Nat) (tys : List (ClassId × FieldType)) (t : Int) (ws : va_W) : Prop := hl_I ex as tys zΦ0 zI0 23 t ws ∨ hl_I ex as tys zΦ1 zI1 23 t ws
section HLD
variable {ex : Nat → Value} {D : va_G} {as : List Nat} {tys : List (ClassId × FieldType)} {p : Program} {l : Launch} {e : Env} {R : Room} {s : State} {m : MethodId} {args : Array Value} {below : List Frame} {meth : Method} {cd : Code} {A : Nat → Prop} {H : Heap} {locs : List Loc} {cs sl : Nat} {ls : Array Slot} {Q : State → Prop}
theorem hl_do {K : va_W → Prop} {K' : Int32 → va_W → Prop} {d ci k' pc rk : Nat} {is : List Nat} {vs rest : List Value} (hM : hl_M ex D as tys d ci k' K vs K') (hcls : q_cls rk ci k') (runner : qy_run1 ex 0 pc rk k' is) (hrk : 2 ≤ rk) (Cx : qy_C ex p R s m args meth cd A (d + 1, 0, []) cs sl) (hK : va_K D zx_cl tys s) {ws wr : va_W} (hw : K ws) (hP : va_P D zx_cl ws H) (hPr : va_P D zx_cl wr H) (hD : va_D A ws) (hdis : hl_dis ws wr) (hS : va_S A s.heap H locs) (hls : ls.size = (zx_info 0).1) (hlen : vs.length = is.length) (hdp : (rest.map fun v => v.category).sum ≤ 8)
    (kk : ∀ (x : Int32) (ws' : va_W) (H1 : Heap) (locs1 : List Loc), K' x ws' → va_P D zx_cl ws' H1 → va_P D zx_cl wr H1 → va_D A ws' → hl_dis ws' wr → va_S A s.heap H1 locs1 → W p l e R s m args below meth cd H1 locs1 cs sl Q (F0 m (pc + 3) ls (.int x :: rest))) : W p l e R s m args below meth cd H locs cs sl Q (F0 m pc ls (vs.reverse ++ rest)) := by
  obtain ⟨fc, ρ, g, w, av, P, h1, h2, h3, h4, ⟨mx, hMx, hpos⟩, h6, h7⟩ := hM ws hw
  refine hl_call (fr := (d + 1, 0, [])) hMx hcls runner rfl rfl Cx ⟨hK, hP, hD, hS, h2, h3⟩ hPr hdis hls (by rw [List.length_reverse]; exact hlen) (by rw [List.reverse_reverse]; exact h4) hdp hpos hrk h6 h1 (fun fc' ρ' o ho => ?_) (fun o rv fc' ρ' ws' H1 locs1 v ho hrv Dy' hoc hPr' hdis' => ?_)
  · obtain ⟨rv, r1, -⟩ := h7 fc' ρ' o ho
    exact ⟨some rv, r1⟩
  · obtain ⟨rv2, r1, r2⟩ := h7 fc' ρ' o ho
    rw [r1] at hrv
    cases hrv
    obtain ⟨v', e1, e2⟩ := hoc
    cases e1
    obtain ⟨x, e3, hk⟩ := r2 ws' v' Dy'.2.2.2.2.1 Dy'.2.2.2.2.2 e2
    rw [e3]
    exact kk x ws' H1 locs1 hk Dy'.2.1 hPr' Dy'.2.2.1 hdis' Dy'.2.2.2.1
end HLD
/-- an element of the script is laid on the stack -/
def la_ldB (pc : Nat) (j : Int) : Bool := decide (decode code pc = .ok (.aload_n 0, 1)) && (decide (decode code (pc + 1) = .ok (.iload_n 3, 1)) && (decide (decode code (pc + 2) = .ok (.iconst j, 1)) && (decide (decode code (pc + 3) = .ok (.iadd, 1)) && decide (decode code (pc + 4) = .ok (.iaload, 1)))))
section HLO
variable {p : Program} {l : Launch} {e : Env} {s : State} {m : MethodId} {below : List Frame} {meth : Method} {c : Code} {b L : Nat} {xs : Nat → Int32} {H : Heap} {locs : List Loc} {cs sl : Nat} {ls : Array Slot} {Q : State → Prop}
theorem la_ld (hx : p.tables.exec = Jvm.exec) (hb : c.code = code) (hX : va_X b L xs s s.heap) (hbl : b < s.heap.size) (hS : va_S (fun q : Nat => s.heap.size ≤ q) s.heap H locs) (g0 : ls[0]? = some (.val (.ref b))) {i : Nat} (g3 : ls[3]? = some (.val (.int (nI i)))) {pc j : Nat} (hB : la_ldB pc j = true) (hj : j ≤ 5) (hL : i + j < L) (hL2 : L ≤ 3072) {rest : List Value} (kk : W p l e room_1 s m #[Value.ref b] below meth c H locs cs sl Q (F0 m (pc + 5) ls (.int (xs (i + j)) :: rest))) : W p l e room_1 s m #[Value.ref b] below meth c H locs cs sl Q (F0 m pc ls rest) := by
  unfold la_ldB at hB
  simp only [Bool.and_eq_true, decide_eq_true_eq] at hB
  obtain ⟨d1, d2, d3, d4, d5⟩ := hB
  refine lv_aload_n hx hb d1 rfl g0 ?_
  refine lv_iload_n hx hb d2 rfl g3 ?_
  refine lv_iconst (v := nI j) hx hb d3 ?_ ?_
  · show Int32.ofInt (j : Int) = Int32.ofNat j
    rfl
  refine lv_iadd hx hb d4 ?_
  have hadd : nI i + nI j = nI (i + j) := by
    apply Int32.toInt_inj.mp
    rw [nI_toInt (by omega)]
    rw [Int32.toInt_add, nI_toInt (by omega), nI_toInt (by omega)]
    have h1 : ((i : Int) + (j : Int)).bmod (2 ^ 32) = (i : Int) + (j : Int) := Int.bmod_eq_of_le (by omega) (by omega)
    rw [h1]
    omega
  rw [hadd]
  refine va_sld (A := fun q : Nat => s.heap.size ≤ q) hx hb hX hbl (Nat.not_le.mpr hbl) hS (i := nI (i + j)) (nI_in hL (by omega)) d5 ?_
  rw [nI_clamp (by omega)]
  exact kk
end HLO
/-- what stands while the law runs -/
def zH (p : Program) (s : State) (m : MethodId) (meth : Method) (c : Code) (b L : Nat) (xs : Nat → Int32) (ex : Nat → Value) (D : va_G) (tys : List (ClassId × FieldType)) (asC asR : List Nat) (cs sl ax ay : Nat) : Prop :=
  p.tables.exec = Jvm.exec ∧ c.code = code ∧ va_X b L xs s s.heap ∧ b < s.heap.size ∧ L ≤ 3072 ∧ qy_C ex p room_1 s m #[Value.ref b] meth c (fun q : Nat => s.heap.size ≤ q) (70, 0, []) cs sl ∧ va_K D zx_cl tys s ∧ asC[0]? = some ax ∧ asR[0]? = some ay
/-- the two worlds at the law's head, with one time -/
def zSt (ex : Nat → Value) (D : va_G) (tys : List (ClassId × FieldType)) (asC asR : List Nat) (s : State) (t : Int) (H : Heap) (locs : List Loc) : Prop :=
  ∃ wC wR, zKC ex asC tys t wC ∧ zKR ex asR tys t wR ∧ va_P D zx_cl wC H ∧ va_P D zx_cl wR H ∧ va_D (fun q : Nat => s.heap.size ≤ q) wC ∧ va_D (fun q : Nat => s.heap.size ≤ q) wR ∧ hl_dis wC wR ∧ va_S (fun q : Nat => s.heap.size ≤ q) s.heap H locs
abbrev zlv (b ax ay i : Nat) : List (Nat × Value) := [(3, .int (nI i)), (0, .ref b), (1, .ref ax), (2, .ref ay)]
section ZLP
variable {p : Program} {l : Launch} {e : Env} {s : State} {m : MethodId} {below : List Frame} {meth : Method} {c : Code} {b L : Nat} {xs : Nat → Int32} {ex : Nat → Value} {D : va_G} {tys : List (ClassId × FieldType)} {asC asR : List Nat} {H : Heap} {locs : List Loc} {cs sl : Nat} {ls : Array Slot} {Q : State → Prop} {ax ay i : Nat} {t : Int}
def la_c0B (pc : Nat) (off : Int) : Bool := decide (decode code pc = .ok (.aload_n 1, 1)) && (decide (decode code (pc + 4) = .ok (.pop, 1)) && (decide (decode code (pc + 5) = .ok (.aload_n 2, 1)) && (decide (decode code (pc + 9) = .ok (.pop, 1)) && decide (decode code (pc + 10) = .ok (.goto off, 3)))))
theorem zlc0 {pc k1 k2 : Nat} {off : Int} {is1 is2 : List Nat} (hB : la_c0B pc off = true) (hoff : ((pc + 10 : Nat) : Int) + off = ((1457 : Nat) : Int)) (hH : zH p s m meth c b L xs ex D tys asC asR cs sl ax ay) (hlv : lv_has ls 4 (zlv b ax ay i)) (hi : i + 6 ≤ L) (c1 : q_cls 2 11 k1) (r1 : qy_run1 ex 0 (pc + 1) 2 k1 is1) (l1 : is1.length = 1) (M1 : hl_M ex D asC tys 69 11 k1 (zKC ex asC tys t) [.ref ax] (fun _ => zKC ex asC tys t)) (c2 : q_cls 2 12 k2) (r2 : qy_run1 ex 0 (pc + 6) 2 k2 is2) (l2 : is2.length = 1) (M2 : hl_M ex D asR tys 69 12 k2 (zKR ex asR tys t) [.ref ay] (fun _ => zKR ex asR tys t)) (hS : zSt ex D tys asC asR s t H locs) (next : ∀ (H1 : Heap) (locs1 : List Loc), zSt ex D tys asC asR s t H1 locs1 → W p l e room_1 s m #[Value.ref b] below meth c H1 locs1 cs sl Q (F0 m 1457 ls [])) : W p l e room_1 s m #[Value.ref b] below meth c H locs cs sl Q (F0 m pc ls []) := by
  obtain ⟨hx, hb, hX, hbl, hL2, Cx, hK, hax, hay⟩ := hH
  unfold la_c0B at hB
  simp only [Bool.and_eq_true, decide_eq_true_eq] at hB
  obtain ⟨d1, p1, d2, p2, dg⟩ := hB
  obtain ⟨wC, wR, kC, kR, pC, pR, dC, dR, dis, sS⟩ := hS
  have g0 := lv_at hlv 1 rfl
  have g1 := lv_at hlv 2 rfl
  have g2 := lv_at hlv 3 rfl
  have g3 := lv_at hlv 0 rfl
  refine lv_aload_n hx hb d1 rfl g1 ?_
  refine hl_do (vs := [.ref ax]) (rest := []) M1 c1 r1 (by omega) Cx hK kC pC pR dC dis sS hlv.1 (by rw [l1]; rfl) (by decide) (fun x wC1 H1 locs1 kC1 pC1 pR1 dC1 dis1 sS1 => ?_)
  refine lv_pop hx hb p1 rfl ?_
  refine lv_aload_n hx hb d2 rfl g2 ?_
  refine hl_do (vs := [.ref ay]) (rest := []) M2 c2 r2 (by omega) Cx hK kR pR1 pC1 dR dis1.sym sS1 hlv.1 (by rw [l2]; rfl) (by decide) (fun y wR1 H2 locs2 kR1 pR2 pC2 dR1 dis2 sS2 => ?_)
  refine lv_pop hx hb p2 rfl ?_
  refine lv_goto (tgt := 1457) hx hb dg hoff ?_
  exact next H2 locs2 ⟨wC1, wR1, kC1, kR1, pC2, pR2, dC1, dR1, dis2.sym, sS2⟩
def la_c1B (pc : Nat) (off : Int) : Bool := decide (decode code pc = .ok (.aload_n 1, 1)) && (la_ldB (pc + 1) 1 && (decide (decode code (pc + 9) = .ok (.pop, 1)) && (decide (decode code (pc + 10) = .ok (.aload_n 2, 1)) && (la_ldB (pc + 11) 1 && (decide (decode code (pc + 19) = .ok (.pop, 1)) && decide (decode code (pc + 20) = .ok (.goto off, 3)))))))
theorem zlc1 {pc k1 k2 : Nat} {off : Int} {is1 is2 : List Nat} (hB : la_c1B pc off = true) (hoff : ((pc + 20 : Nat) : Int) + off = ((1457 : Nat) : Int)) (hH : zH p s m meth c b L xs ex D tys asC asR cs sl ax ay) (hlv : lv_has ls 4 (zlv b ax ay i)) (hi : i + 6 ≤ L) (c1 : q_cls 2 11 k1) (r1 : qy_run1 ex 0 (pc + 6) 2 k1 is1) (l1 : is1.length = 2) (M1 : hl_M ex D asC tys 69 11 k1 (zKC ex asC tys t) [.ref ax, .int (xs (i + 1))] (fun _ => zKC ex asC tys t)) (c2 : q_cls 2 12 k2) (r2 : qy_run1 ex 0 (pc + 16) 2 k2 is2) (l2 : is2.length = 2) (M2 : hl_M ex D asR tys 69 12 k2 (zKR ex asR tys t) [.ref ay, .int (xs (i + 1))] (fun _ => zKR ex asR tys t)) (hS : zSt ex D tys asC asR s t H locs) (next : ∀ (H1 : Heap) (locs1 : List Loc), zSt ex D tys asC asR s t H1 locs1 → W p l e room_1 s m #[Value.ref b] below meth c H1 locs1 cs sl Q (F0 m 1457 ls [])) : W p l e room_1 s m #[Value.ref b] below meth c H locs cs sl Q (F0 m pc ls []) := by
  obtain ⟨hx, hb, hX, hbl, hL2, Cx, hK, hax, hay⟩ := hH
  unfold la_c1B at hB
  simp only [Bool.and_eq_true, decide_eq_true_eq] at hB
  obtain ⟨d1, e1, p1, d2, f1, p2, dg⟩ := hB
  obtain ⟨wC, wR, kC, kR, pC, pR, dC, dR, dis, sS⟩ := hS
  have g0 := lv_at hlv 1 rfl
  have g1 := lv_at hlv 2 rfl
  have g2 := lv_at hlv 3 rfl
  have g3 := lv_at hlv 0 rfl
  refine lv_aload_n hx hb d1 rfl g1 ?_
  refine la_ld hx hb hX hbl sS g0 g3 (j := 1) e1 (by omega) (by omega) hL2 ?_
  refine hl_do (vs := [.ref ax, .int (xs (i + 1))]) (rest := []) M1 c1 r1 (by omega) Cx hK kC pC pR dC dis sS hlv.1 (by rw [l1]; rfl) (by decide) (fun x wC1 H1 locs1 kC1 pC1 pR1 dC1 dis1 sS1 => ?_)
  refine lv_pop hx hb p1 rfl ?_
  refine lv_aload_n hx hb d2 rfl g2 ?_
  refine la_ld hx hb hX hbl sS1 g0 g3 (j := 1) f1 (by omega) (by omega) hL2 ?_
  refine hl_do (vs := [.ref ay, .int (xs (i + 1))]) (rest := []) M2 c2 r2 (by omega) Cx hK kR pR1 pC1 dR dis1.sym sS1 hlv.1 (by rw [l2]; rfl) (by decide) (fun y wR1 H2 locs2 kR1 pR2 pC2 dR1 dis2 sS2 => ?_)
  refine lv_pop hx hb p2 rfl ?_
  refine lv_goto (tgt := 1457) hx hb dg hoff ?_
  exact next H2 locs2 ⟨wC1, wR1, kC1, kR1, pC2, pR2, dC1, dR1, dis2.sym, sS2⟩
def la_c2B (pc : Nat) (off : Int) : Bool := decide (decode code pc = .ok (.aload_n 1, 1)) && (la_ldB (pc + 1) 1 && (la_ldB (pc + 6) 2 && (decide (decode code (pc + 14) = .ok (.pop, 1)) && (decide (decode code (pc + 15) = .ok (.aload_n 2, 1)) && (la_ldB (pc + 16) 1 && (la_ldB (pc + 21) 2 && (decide (decode code (pc + 29) = .ok (.pop, 1)) && decide (decode code (pc + 30) = .ok (.goto off, 3)))))))))
theorem zlc2 {pc k1 k2 : Nat} {off : Int} {is1 is2 : List Nat} (hB : la_c2B pc off = true) (hoff : ((pc + 30 : Nat) : Int) + off = ((1457 : Nat) : Int)) (hH : zH p s m meth c b L xs ex D tys asC asR cs sl ax ay) (hlv : lv_has ls 4 (zlv b ax ay i)) (hi : i + 6 ≤ L) (c1 : q_cls 2 11 k1) (r1 : qy_run1 ex 0 (pc + 11) 2 k1 is1) (l1 : is1.length = 3) (M1 : hl_M ex D asC tys 69 11 k1 (zKC ex asC tys t) [.ref ax, .int (xs (i + 1)), .int (xs (i + 2))] (fun _ => zKC ex asC tys t)) (c2 : q_cls 2 12 k2) (r2 : qy_run1 ex 0 (pc + 26) 2 k2 is2) (l2 : is2.length = 3) (M2 : hl_M ex D asR tys 69 12 k2 (zKR ex asR tys t) [.ref ay, .int (xs (i + 1)), .int (xs (i + 2))] (fun _ => zKR ex asR tys t)) (hS : zSt ex D tys asC asR s t H locs) (next : ∀ (H1 : Heap) (locs1 : List Loc), zSt ex D tys asC asR s t H1 locs1 → W p l e room_1 s m #[Value.ref b] below meth c H1 locs1 cs sl Q (F0 m 1457 ls [])) : W p l e room_1 s m #[Value.ref b] below meth c H locs cs sl Q (F0 m pc ls []) := by
  obtain ⟨hx, hb, hX, hbl, hL2, Cx, hK, hax, hay⟩ := hH
  unfold la_c2B at hB
  simp only [Bool.and_eq_true, decide_eq_true_eq] at hB
  obtain ⟨d1, e1, e2, p1, d2, f1, f2, p2, dg⟩ := hB
  obtain ⟨wC, wR, kC, kR, pC, pR, dC, dR, dis, sS⟩ := hS
  have g0 := lv_at hlv 1 rfl
  have g1 := lv_at hlv 2 rfl
  have g2 := lv_at hlv 3 rfl
  have g3 := lv_at hlv 0 rfl
  refine lv_aload_n hx hb d1 rfl g1 ?_
  refine la_ld hx hb hX hbl sS g0 g3 (j := 1) e1 (by omega) (by omega) hL2 ?_
  refine la_ld hx hb hX hbl sS g0 g3 (j := 2) e2 (by omega) (by omega) hL2 ?_
  refine hl_do (vs := [.ref ax, .int (xs (i + 1)), .int (xs (i + 2))]) (rest := []) M1 c1 r1 (by omega) Cx hK kC pC pR dC dis sS hlv.1 (by rw [l1]; rfl) (by decide) (fun x wC1 H1 locs1 kC1 pC1 pR1 dC1 dis1 sS1 => ?_)
  refine lv_pop hx hb p1 rfl ?_
  refine lv_aload_n hx hb d2 rfl g2 ?_
  refine la_ld hx hb hX hbl sS1 g0 g3 (j := 1) f1 (by omega) (by omega) hL2 ?_
  refine la_ld hx hb hX hbl sS1 g0 g3 (j := 2) f2 (by omega) (by omega) hL2 ?_
  refine hl_do (vs := [.ref ay, .int (xs (i + 1)), .int (xs (i + 2))]) (rest := []) M2 c2 r2 (by omega) Cx hK kR pR1 pC1 dR dis1.sym sS1 hlv.1 (by rw [l2]; rfl) (by decide) (fun y wR1 H2 locs2 kR1 pR2 pC2 dR1 dis2 sS2 => ?_)
  refine lv_pop hx hb p2 rfl ?_
  refine lv_goto (tgt := 1457) hx hb dg hoff ?_
  exact next H2 locs2 ⟨wC1, wR1, kC1, kR1, pC2, pR2, dC1, dR1, dis2.sym, sS2⟩
def la_c5B (pc : Nat) (off : Int) : Bool := decide (decode code pc = .ok (.aload_n 1, 1)) && (la_ldB (pc + 1) 1 && (la_ldB (pc + 6) 2 && (la_ldB (pc + 11) 3 && (la_ldB (pc + 16) 4 && (la_ldB (pc + 21) 5 && (decide (decode code (pc + 29) = .ok (.pop, 1)) && (decide (decode code (pc + 30) = .ok (.aload_n 2, 1)) && (la_ldB (pc + 31) 1 && (la_ldB (pc + 36) 2 && (la_ldB (pc + 41) 3 && (la_ldB (pc + 46) 4 && (la_ldB (pc + 51) 5 && (decide (decode code (pc + 59) = .ok (.pop, 1)) && decide (decode code (pc + 60) = .ok (.goto off, 3)))))))))))))))
theorem zlc5 {pc k1 k2 : Nat} {off : Int} {is1 is2 : List Nat} (hB : la_c5B pc off = true) (hoff : ((pc + 60 : Nat) : Int) + off = ((1457 : Nat) : Int)) (hH : zH p s m meth c b L xs ex D tys asC asR cs sl ax ay) (hlv : lv_has ls 4 (zlv b ax ay i)) (hi : i + 6 ≤ L) (c1 : q_cls 2 11 k1) (r1 : qy_run1 ex 0 (pc + 26) 2 k1 is1) (l1 : is1.length = 6) (M1 : hl_M ex D asC tys 69 11 k1 (zKC ex asC tys t) [.ref ax, .int (xs (i + 1)), .int (xs (i + 2)), .int (xs (i + 3)), .int (xs (i + 4)), .int (xs (i + 5))] (fun _ => zKC ex asC tys t)) (c2 : q_cls 2 12 k2) (r2 : qy_run1 ex 0 (pc + 56) 2 k2 is2) (l2 : is2.length = 6) (M2 : hl_M ex D asR tys 69 12 k2 (zKR ex asR tys t) [.ref ay, .int (xs (i + 1)), .int (xs (i + 2)), .int (xs (i + 3)), .int (xs (i + 4)), .int (xs (i + 5))] (fun _ => zKR ex asR tys t)) (hS : zSt ex D tys asC asR s t H locs) (next : ∀ (H1 : Heap) (locs1 : List Loc), zSt ex D tys asC asR s t H1 locs1 → W p l e room_1 s m #[Value.ref b] below meth c H1 locs1 cs sl Q (F0 m 1457 ls [])) : W p l e room_1 s m #[Value.ref b] below meth c H locs cs sl Q (F0 m pc ls []) := by
  obtain ⟨hx, hb, hX, hbl, hL2, Cx, hK, hax, hay⟩ := hH
  unfold la_c5B at hB
  simp only [Bool.and_eq_true, decide_eq_true_eq] at hB
  obtain ⟨d1, e1, e2, e3, e4, e5, p1, d2, f1, f2, f3, f4, f5, p2, dg⟩ := hB
  obtain ⟨wC, wR, kC, kR, pC, pR, dC, dR, dis, sS⟩ := hS
  have g0 := lv_at hlv 1 rfl
  have g1 := lv_at hlv 2 rfl
  have g2 := lv_at hlv 3 rfl
  have g3 := lv_at hlv 0 rfl
  refine lv_aload_n hx hb d1 rfl g1 ?_
  refine la_ld hx hb hX hbl sS g0 g3 (j := 1) e1 (by omega) (by omega) hL2 ?_
  refine la_ld hx hb hX hbl sS g0 g3 (j := 2) e2 (by omega) (by omega) hL2 ?_
  refine la_ld hx hb hX hbl sS g0 g3 (j := 3) e3 (by omega) (by omega) hL2 ?_
  refine la_ld hx hb hX hbl sS g0 g3 (j := 4) e4 (by omega) (by omega) hL2 ?_
  refine la_ld hx hb hX hbl sS g0 g3 (j := 5) e5 (by omega) (by omega) hL2 ?_
  refine hl_do (vs := [.ref ax, .int (xs (i + 1)), .int (xs (i + 2)), .int (xs (i + 3)), .int (xs (i + 4)), .int (xs (i + 5))]) (rest := []) M1 c1 r1 (by omega) Cx hK kC pC pR dC dis sS hlv.1 (by rw [l1]; rfl) (by decide) (fun x wC1 H1 locs1 kC1 pC1 pR1 dC1 dis1 sS1 => ?_)
  refine lv_pop hx hb p1 rfl ?_
  refine lv_aload_n hx hb d2 rfl g2 ?_
  refine la_ld hx hb hX hbl sS1 g0 g3 (j := 1) f1 (by omega) (by omega) hL2 ?_
  refine la_ld hx hb hX hbl sS1 g0 g3 (j := 2) f2 (by omega) (by omega) hL2 ?_
  refine la_ld hx hb hX hbl sS1 g0 g3 (j := 3) f3 (by omega) (by omega) hL2 ?_
  refine la_ld hx hb hX hbl sS1 g0 g3 (j := 4) f4 (by omega) (by omega) hL2 ?_
  refine la_ld hx hb hX hbl sS1 g0 g3 (j := 5) f5 (by omega) (by omega) hL2 ?_
  refine hl_do (vs := [.ref ay, .int (xs (i + 1)), .int (xs (i + 2)), .int (xs (i + 3)), .int (xs (i + 4)), .int (xs (i + 5))]) (rest := []) M2 c2 r2 (by omega) Cx hK kR pR1 pC1 dR dis1.sym sS1 hlv.1 (by rw [l2]; rfl) (by decide) (fun y wR1 H2 locs2 kR1 pR2 pC2 dR1 dis2 sS2 => ?_)
  refine lv_pop hx hb p2 rfl ?_
  refine lv_goto (tgt := 1457) hx hb dg hoff ?_
  exact next H2 locs2 ⟨wC1, wR1, kC1, kR1, pC2, pR2, dC1, dR1, dis2.sym, sS2⟩
def la_bB (pc : Nat) : Bool := decide (decode code pc = .ok (.ifCond .eq 7, 3)) && (decide (decode code (pc + 3) = .ok (.iconst 1, 1)) && (decide (decode code (pc + 4) = .ok (.goto 4, 3)) && decide (decode code (pc + 7) = .ok (.iconst 0, 1))))
def zbl (x : Int32) : Int32 := if x = 0 then 0 else 1
theorem zbl_or (x : Int32) : zbl x = 0 ∨ zbl x = 1 := by
  unfold zbl
  split
  · exact Or.inl rfl
  · exact Or.inr rfl
theorem la_b {R : Room} {args : Array Value} (hx : p.tables.exec = Jvm.exec) (hb : c.code = code) {pc : Nat} (hB : la_bB pc = true) {x : Int32} {rest : List Value} (kk : W p l e R s m args below meth c H locs cs sl Q (F0 m (pc + 8) ls (.int (zbl x) :: rest))) : W p l e R s m args below meth c H locs cs sl Q (F0 m pc ls (.int x :: rest)) := by
  unfold la_bB at hB
  simp only [Bool.and_eq_true, decide_eq_true_eq] at hB
  obtain ⟨d1, d2, d3, d4⟩ := hB
  refine lv_if_eq (tgt := pc + 7) hx hb d1 (by omega) (fun z => ?_) (fun z => ?_)
  · refine lv_iconst (v := zbl x) hx hb d4 ?_ kk
    unfold zbl; rw [if_pos z]; rfl
  · refine lv_iconst (v := zbl x) hx hb d2 ?_ ?_
    · unfold zbl; rw [if_neg z]; rfl
    · exact lv_goto (tgt := pc + 8) hx hb d3 (by omega) kk
def la_c3B (pc : Nat) (off : Int) : Bool := decide (decode code pc = .ok (.aload_n 1, 1)) && (la_ldB (pc + 1) 1 && (la_ldB (pc + 6) 2 && (la_ldB (pc + 11) 3 && (la_bB (pc + 16) && (decide (decode code (pc + 27) = .ok (.pop, 1)) && (decide (decode code (pc + 28) = .ok (.aload_n 2, 1)) && (la_ldB (pc + 29) 1 && (la_ldB (pc + 34) 2 && (la_ldB (pc + 39) 3 && (la_bB (pc + 44) && (decide (decode code (pc + 55) = .ok (.pop, 1)) && decide (decode code (pc + 56) = .ok (.goto off, 3)))))))))))))
theorem zlc3 {pc k1 k2 : Nat} {off : Int} {is1 is2 : List Nat} (hB : la_c3B pc off = true) (hoff : ((pc + 56 : Nat) : Int) + off = ((1457 : Nat) : Int)) (hH : zH p s m meth c b L xs ex D tys asC asR cs sl ax ay) (hlv : lv_has ls 4 (zlv b ax ay i)) (hi : i + 6 ≤ L) (c1 : q_cls 2 11 k1) (r1 : qy_run1 ex 0 (pc + 24) 2 k1 is1) (l1 : is1.length = 4) (M1 : hl_M ex D asC tys 69 11 k1 (zKC ex asC tys t) [.ref ax, .int (xs (i + 1)), .int (xs (i + 2)), .int (zbl (xs (i + 3)))] (fun _ => zKC ex asC tys t)) (c2 : q_cls 2 12 k2) (r2 : qy_run1 ex 0 (pc + 52) 2 k2 is2) (l2 : is2.length = 4) (M2 : hl_M ex D asR tys 69 12 k2 (zKR ex asR tys t) [.ref ay, .int (xs (i + 1)), .int (xs (i + 2)), .int (zbl (xs (i + 3)))] (fun _ => zKR ex asR tys t)) (hS : zSt ex D tys asC asR s t H locs) (next : ∀ (H1 : Heap) (locs1 : List Loc), zSt ex D tys asC asR s t H1 locs1 → W p l e room_1 s m #[Value.ref b] below meth c H1 locs1 cs sl Q (F0 m 1457 ls [])) : W p l e room_1 s m #[Value.ref b] below meth c H locs cs sl Q (F0 m pc ls []) := by
  obtain ⟨hx, hb, hX, hbl, hL2, Cx, hK, hax, hay⟩ := hH
  unfold la_c3B at hB
  simp only [Bool.and_eq_true, decide_eq_true_eq] at hB
  obtain ⟨d1, e1, e2, e3, b1, p1, d2, f1, f2, f3, b2, p2, dg⟩ := hB
  obtain ⟨wC, wR, kC, kR, pC, pR, dC, dR, dis, sS⟩ := hS
  have g0 := lv_at hlv 1 rfl
  have g1 := lv_at hlv 2 rfl
  have g2 := lv_at hlv 3 rfl
  have g3 := lv_at hlv 0 rfl
  refine lv_aload_n hx hb d1 rfl g1 ?_
  refine la_ld hx hb hX hbl sS g0 g3 (j := 1) e1 (by omega) (by omega) hL2 ?_
  refine la_ld hx hb hX hbl sS g0 g3 (j := 2) e2 (by omega) (by omega) hL2 ?_
  refine la_ld hx hb hX hbl sS g0 g3 (j := 3) e3 (by omega) (by omega) hL2 ?_
  refine la_b hx hb b1 ?_
  refine hl_do (vs := [.ref ax, .int (xs (i + 1)), .int (xs (i + 2)), .int (zbl (xs (i + 3)))]) (rest := []) M1 c1 r1 (by omega) Cx hK kC pC pR dC dis sS hlv.1 (by rw [l1]; rfl) (by decide) (fun x wC1 H1 locs1 kC1 pC1 pR1 dC1 dis1 sS1 => ?_)
  refine lv_pop hx hb p1 rfl ?_
  refine lv_aload_n hx hb d2 rfl g2 ?_
  refine la_ld hx hb hX hbl sS1 g0 g3 (j := 1) f1 (by omega) (by omega) hL2 ?_
  refine la_ld hx hb hX hbl sS1 g0 g3 (j := 2) f2 (by omega) (by omega) hL2 ?_
  refine la_ld hx hb hX hbl sS1 g0 g3 (j := 3) f3 (by omega) (by omega) hL2 ?_
  refine la_b hx hb b2 ?_
  refine hl_do (vs := [.ref ay, .int (xs (i + 1)), .int (xs (i + 2)), .int (zbl (xs (i + 3)))]) (rest := []) M2 c2 r2 (by omega) Cx hK kR pR1 pC1 dR dis1.sym sS1 hlv.1 (by rw [l2]; rfl) (by decide) (fun y wR1 H2 locs2 kR1 pR2 pC2 dR1 dis2 sS2 => ?_)
  refine lv_pop hx hb p2 rfl ?_
  refine lv_goto (tgt := 1457) hx hb dg hoff ?_
  exact next H2 locs2 ⟨wC1, wR1, kC1, kR1, pC2, pR2, dC1, dR1, dis2.sym, sS2⟩
def la_cLB (pc : Nat) (off : Int) : Bool := decide (decode code pc = .ok (.aload_n 1, 1)) && (la_ldB (pc + 1) 1 && (decide (decode code (pc + 9) = .ok (.aload_n 2, 1)) && (la_ldB (pc + 10) 1 && decide (decode code (pc + 18) = .ok (.if_icmp .eq off, 3)))))
theorem zlcL {pc k1 k2 : Nat} {off F t1 : Int} {is1 is2 : List Nat} (hB : la_cLB pc off = true) (hoff : ((pc + 18 : Nat) : Int) + off = ((1457 : Nat) : Int)) (hH : zH p s m meth c b L xs ex D tys asC asR cs sl ax ay) (hlv : lv_has ls 4 (zlv b ax ay i)) (hi : i + 6 ≤ L) (c1 : q_cls 2 11 k1) (r1 : qy_run1 ex 0 (pc + 6) 2 k1 is1) (l1 : is1.length = 2) (M1 : hl_M ex D asC tys 69 11 k1 (zKC ex asC tys t) [.ref ax, .int (xs (i + 1))] (fun r ws => r.toInt = F ∧ zKC ex asC tys t1 ws)) (c2 : q_cls 2 12 k2) (r2 : qy_run1 ex 0 (pc + 15) 2 k2 is2) (l2 : is2.length = 2) (M2 : hl_M ex D asR tys 69 12 k2 (zKR ex asR tys t) [.ref ay, .int (xs (i + 1))] (fun r ws => r.toInt = F ∧ zKR ex asR tys t1 ws)) (hS : zSt ex D tys asC asR s t H locs) (next : ∀ (H1 : Heap) (locs1 : List Loc), zSt ex D tys asC asR s t1 H1 locs1 → W p l e room_1 s m #[Value.ref b] below meth c H1 locs1 cs sl Q (F0 m 1457 ls [])) : W p l e room_1 s m #[Value.ref b] below meth c H locs cs sl Q (F0 m pc ls []) := by
  obtain ⟨hx, hb, hX, hbl, hL2, Cx, hK, hax, hay⟩ := hH
  unfold la_cLB at hB
  simp only [Bool.and_eq_true, decide_eq_true_eq] at hB
  obtain ⟨d1, e1, d2, f1, dg⟩ := hB
  obtain ⟨wC, wR, kC, kR, pC, pR, dC, dR, dis, sS⟩ := hS
  have g0 := lv_at hlv 1 rfl
  have g1 := lv_at hlv 2 rfl
  have g2 := lv_at hlv 3 rfl
  have g3 := lv_at hlv 0 rfl
  refine lv_aload_n hx hb d1 rfl g1 ?_
  refine la_ld hx hb hX hbl sS g0 g3 (j := 1) e1 (by omega) (by omega) hL2 ?_
  refine hl_do (vs := [.ref ax, .int (xs (i + 1))]) (rest := []) M1 c1 r1 (by omega) Cx hK kC pC pR dC dis sS hlv.1 (by rw [l1]; rfl) (by decide) (fun x wC1 H1 locs1 kC1 pC1 pR1 dC1 dis1 sS1 => ?_)
  refine lv_aload_n hx hb d2 rfl g2 ?_
  refine la_ld hx hb hX hbl sS1 g0 g3 (j := 1) f1 (by omega) (by omega) hL2 ?_
  refine hl_do (vs := [.ref ay, .int (xs (i + 1))]) (rest := [.int x]) M2 c2 r2 (by omega) Cx hK kR pR1 pC1 dR dis1.sym sS1 hlv.1 (by rw [l2]; rfl) (by show 1 + 0 ≤ 8; omega) (fun y wR1 H2 locs2 kR1 pR2 pC2 dR1 dis2 sS2 => ?_)
  have hxy : x = y := Int32.toInt_inj.mp (by rw [kC1.1, kR1.1])
  refine lv_icmp_eq (tgt := 1457) hx hb dg hoff (fun _ => ?_) (fun z => absurd hxy z)
  exact next H2 locs2 ⟨wC1, wR1, kC1.2, kR1.2, pC2, pR2, dC1, dR1, dis2.sym, sS2⟩
theorem zlcT {pc k1 k2 : Nat} {off t1 : Int} {is1 is2 : List Nat} (hB : la_c1B pc off = true) (hoff : ((pc + 20 : Nat) : Int) + off = ((1457 : Nat) : Int)) (hH : zH p s m meth c b L xs ex D tys asC asR cs sl ax ay) (hlv : lv_has ls 4 (zlv b ax ay i)) (hi : i + 6 ≤ L) (c1 : q_cls 2 11 k1) (r1 : qy_run1 ex 0 (pc + 6) 2 k1 is1) (l1 : is1.length = 2) (M1 : hl_M ex D asC tys 69 11 k1 (zKC ex asC tys t) [.ref ax, .int (xs (i + 1))] (fun _ => zKC ex asC tys t1)) (c2 : q_cls 2 12 k2) (r2 : qy_run1 ex 0 (pc + 16) 2 k2 is2) (l2 : is2.length = 2) (M2 : hl_M ex D asR tys 69 12 k2 (zKR ex asR tys t) [.ref ay, .int (xs (i + 1))] (fun _ => zKR ex asR tys t1)) (hS : zSt ex D tys asC asR s t H locs) (next : ∀ (H1 : Heap) (locs1 : List Loc), zSt ex D tys asC asR s t1 H1 locs1 → W p l e room_1 s m #[Value.ref b] below meth c H1 locs1 cs sl Q (F0 m 1457 ls [])) : W p l e room_1 s m #[Value.ref b] below meth c H locs cs sl Q (F0 m pc ls []) := by
  obtain ⟨hx, hb, hX, hbl, hL2, Cx, hK, hax, hay⟩ := hH
  unfold la_c1B at hB
  simp only [Bool.and_eq_true, decide_eq_true_eq] at hB
  obtain ⟨d1, e1, p1, d2, f1, p2, dg⟩ := hB
  obtain ⟨wC, wR, kC, kR, pC, pR, dC, dR, dis, sS⟩ := hS
  have g0 := lv_at hlv 1 rfl
  have g1 := lv_at hlv 2 rfl
  have g2 := lv_at hlv 3 rfl
  have g3 := lv_at hlv 0 rfl
  refine lv_aload_n hx hb d1 rfl g1 ?_
  refine la_ld hx hb hX hbl sS g0 g3 (j := 1) e1 (by omega) (by omega) hL2 ?_
  refine hl_do (vs := [.ref ax, .int (xs (i + 1))]) (rest := []) M1 c1 r1 (by omega) Cx hK kC pC pR dC dis sS hlv.1 (by rw [l1]; rfl) (by decide) (fun x wC1 H1 locs1 kC1 pC1 pR1 dC1 dis1 sS1 => ?_)
  refine lv_pop hx hb p1 rfl ?_
  refine lv_aload_n hx hb d2 rfl g2 ?_
  refine la_ld hx hb hX hbl sS1 g0 g3 (j := 1) f1 (by omega) (by omega) hL2 ?_
  refine hl_do (vs := [.ref ay, .int (xs (i + 1))]) (rest := []) M2 c2 r2 (by omega) Cx hK kR pR1 pC1 dR dis1.sym sS1 hlv.1 (by rw [l2]; rfl) (by decide) (fun y wR1 H2 locs2 kR1 pR2 pC2 dR1 dis2 sS2 => ?_)
  refine lv_pop hx hb p2 rfl ?_
  refine lv_goto (tgt := 1457) hx hb dg hoff ?_
  exact next H2 locs2 ⟨wC1, wR1, kC1, kR1, pC2, pR2, dC1, dR1, dis2.sym, sS2⟩
theorem hl_z1 {as : List Nat} {Φ : (Nat → Nat → Int32) → Prop} {I : qG × List qE} {ti : Nat} {ws : va_W} (h : ∃ I' ∈ [I], hl_I ex as tys Φ I' ti t ws) : hl_I ex as tys Φ I ti t ws := by
  obtain ⟨x, h1, h2⟩ := h
  rcases List.mem_cons.mp h1 with e | e
  · rw [← e]; exact h2
  · cases e
theorem hl_z2 {as : List Nat} {Φ : (Nat → Nat → Int32) → Prop} {I J : qG × List qE} {ti : Nat} {ws : va_W} (h : ∃ I' ∈ [I, J], hl_I ex as tys Φ I' ti t ws) : hl_I ex as tys Φ I ti t ws ∨ hl_I ex as tys Φ J ti t ws := by
  obtain ⟨x, h1, h2⟩ := h
  rcases List.mem_cons.mp h1 with e | e
  · exact Or.inl (by rw [← e]; exact h2)
  · rcases List.mem_cons.mp e with e | e
    · exact Or.inr (by rw [← e]; exact h2)
    · cases e
set_option maxRecDepth 100000 in
theorem zcase0 (hH : zH p s m meth c b L xs ex D tys asC asR cs sl ax ay) (hlv : lv_has ls 4 (zlv b ax ay i)) (hi : i + 6 ≤ L) (ht0 : 0 ≤ t) (ht1 : t ≤ 100000) (hS : zSt ex D tys asC asR s t H locs) (next : ∀ (t1 : Int) (H1 : Heap) (locs1 : List Loc), 0 ≤ t1 → t1 ≤ 100000 → zSt ex D tys asC asR s t1 H1 locs1 → W p l e room_1 s m #[Value.ref b] below meth c H1 locs1 cs sl Q (F0 m 1457 ls [])) : W p l e room_1 s m #[Value.ref b] below meth c H locs cs sl Q (F0 m 244 ls []) := by
  have hex := hH.2.2.2.2.2.1.2.2.2.2.2.2.1.1
  have hax := hH.2.2.2.2.2.2.2.1
  have hay := hH.2.2.2.2.2.2.2.2
  obtain ⟨-, c1, r1⟩ := qs_vc (ex := ex) zk_tt zk_aa (k := 0) (pc := 270) rfl
  obtain ⟨-, c2, r2⟩ := qs_vc (ex := ex) zk_tt zk_aa (k := 0) (pc := 300) rfl
  exact zlc5 (off := 1153) (by decide +kernel) (by decide) hH hlv hi c1 r1 rfl (hl_M.or ((zMA_feed (t := t) zk_tt zk_aa hex hax (xs (i + 1)) (xs (i + 2)) (xs (i + 3)) (xs (i + 4)) (xs (i + 5))).to (fun _ ws h => Or.inl (hl_z1 h))) ((zMB_feed (t := t) zk_tt zk_aa hex hax (xs (i + 1)) (xs (i + 2)) (xs (i + 3)) (xs (i + 4)) (xs (i + 5))).to (fun _ ws h => Or.inr (hl_z1 h)))) c2 r2 rfl (hl_M.or ((zM0_feed (t := t) zk_tt zk_aa hex hay (xs (i + 1)) (xs (i + 2)) (xs (i + 3)) (xs (i + 4)) (xs (i + 5))).to (fun _ ws h => Or.inl (hl_z1 h))) ((zM1_feed (t := t) zk_tt zk_aa hex hay (xs (i + 1)) (xs (i + 2)) (xs (i + 3)) (xs (i + 4)) (xs (i + 5))).to (fun _ ws h => Or.inr (hl_z1 h)))) hS (fun H1 locs1 h => next t H1 locs1 ht0 ht1 h)
set_option maxRecDepth 100000 in
theorem zcase1 (hH : zH p s m meth c b L xs ex D tys asC asR cs sl ax ay) (hlv : lv_has ls 4 (zlv b ax ay i)) (hi : i + 6 ≤ L) (ht0 : 0 ≤ t) (ht1 : t ≤ 100000) (hS : zSt ex D tys asC asR s t H locs) (next : ∀ (t1 : Int) (H1 : Heap) (locs1 : List Loc), 0 ≤ t1 → t1 ≤ 100000 → zSt ex D tys asC asR s t1 H1 locs1 → W p l e room_1 s m #[Value.ref b] below meth c H1 locs1 cs sl Q (F0 m 1457 ls [])) : W p l e room_1 s m #[Value.ref b] below meth c H locs cs sl Q (F0 m 307 ls []) := by
  have hex := hH.2.2.2.2.2.1.2.2.2.2.2.2.1.1
  have hax := hH.2.2.2.2.2.2.2.1
  have hay := hH.2.2.2.2.2.2.2.2
  obtain ⟨-, c1, r1⟩ := qs_vc (ex := ex) zk_tt zk_aa (k := 0) (pc := 313) rfl
  obtain ⟨-, c2, r2⟩ := qs_vc (ex := ex) zk_tt zk_aa (k := 0) (pc := 323) rfl
  exact zlc1 (off := 1130) (by decide +kernel) (by decide) hH hlv hi c1 r1 rfl (hl_M.or ((zMA_end (t := t) zk_tt zk_aa hex hax (xs (i + 1))).to (fun _ ws h => Or.inl (hl_z1 h))) ((zMB_end (t := t) zk_tt zk_aa hex hax (xs (i + 1))).to (fun _ ws h => Or.inr (hl_z1 h)))) c2 r2 rfl (hl_M.or ((zM0_end (t := t) zk_tt zk_aa hex hay (xs (i + 1))).to (fun _ ws h => Or.inl (hl_z1 h))) ((zM1_end (t := t) zk_tt zk_aa hex hay (xs (i + 1))).to (fun _ ws h => Or.inr (hl_z1 h)))) hS (fun H1 locs1 h => next t H1 locs1 ht0 ht1 h)
set_option maxRecDepth 100000 in
theorem zcase2 (hH : zH p s m meth c b L xs ex D tys asC asR cs sl ax ay) (hlv : lv_has ls 4 (zlv b ax ay i)) (hi : i + 6 ≤ L) (ht0 : 0 ≤ t) (ht1 : t ≤ 100000) (hS : zSt ex D tys asC asR s t H locs) (next : ∀ (t1 : Int) (H1 : Heap) (locs1 : List Loc), 0 ≤ t1 → t1 ≤ 100000 → zSt ex D tys asC asR s t1 H1 locs1 → W p l e room_1 s m #[Value.ref b] below meth c H1 locs1 cs sl Q (F0 m 1457 ls [])) : W p l e room_1 s m #[Value.ref b] below meth c H locs cs sl Q (F0 m 330 ls []) := by
  have hex := hH.2.2.2.2.2.1.2.2.2.2.2.2.1.1
  have hax := hH.2.2.2.2.2.2.2.1
  have hay := hH.2.2.2.2.2.2.2.2
  obtain ⟨-, c1, r1⟩ := qs_vc (ex := ex) zk_tt zk_aa (k := 0) (pc := 331) rfl
  obtain ⟨-, c2, r2⟩ := qs_vc (ex := ex) zk_tt zk_aa (k := 0) (pc := 336) rfl
  exact zlc0 (off := 1117) (by decide +kernel) (by decide) hH hlv hi c1 r1 rfl (hl_M.or ((zMA_beach (t := t) zk_tt zk_aa hex hax).to (fun _ ws h => hl_z2 h)) ((zMB_beach (t := t) zk_tt zk_aa hex hax).to (fun _ ws h => hl_z2 h))) c2 r2 rfl (hl_M.or (zM0_beach (t := t) zk_tt zk_aa hex hay) (zM1_beach (t := t) zk_tt zk_aa hex hay)) hS (fun H1 locs1 h => next t H1 locs1 ht0 ht1 h)
set_option maxRecDepth 100000 in
theorem zcase3 (hH : zH p s m meth c b L xs ex D tys asC asR cs sl ax ay) (hlv : lv_has ls 4 (zlv b ax ay i)) (hi : i + 6 ≤ L) (ht0 : 0 ≤ t) (ht1 : t ≤ 100000) (hS : zSt ex D tys asC asR s t H locs) (next : ∀ (t1 : Int) (H1 : Heap) (locs1 : List Loc), 0 ≤ t1 → t1 ≤ 100000 → zSt ex D tys asC asR s t1 H1 locs1 → W p l e room_1 s m #[Value.ref b] below meth c H1 locs1 cs sl Q (F0 m 1457 ls [])) : W p l e room_1 s m #[Value.ref b] below meth c H locs cs sl Q (F0 m 343 ls []) := by
  have hex := hH.2.2.2.2.2.1.2.2.2.2.2.2.1.1
  have hax := hH.2.2.2.2.2.2.2.1
  have hay := hH.2.2.2.2.2.2.2.2
  obtain ⟨-, c1, r1⟩ := qs_vc (ex := ex) zk_tt zk_aa (k := 0) (pc := 349) rfl
  obtain ⟨-, c2, r2⟩ := qs_vc (ex := ex) zk_tt zk_aa (k := 0) (pc := 359) rfl
  exact zlc1 (off := 1094) (by decide +kernel) (by decide) hH hlv hi c1 r1 rfl (hl_M.or ((zMA_fault (t := t) zk_tt zk_aa hex hax (xs (i + 1))).to (fun _ ws h => Or.inl (hl_z1 h))) ((zMB_fault (t := t) zk_tt zk_aa hex hax (xs (i + 1))).to (fun _ ws h => Or.inr (hl_z1 h)))) c2 r2 rfl (hl_M.or ((zM0_fault (t := t) zk_tt zk_aa hex hay (xs (i + 1))).to (fun _ ws h => Or.inl (hl_z1 h))) ((zM1_fault (t := t) zk_tt zk_aa hex hay (xs (i + 1))).to (fun _ ws h => Or.inr (hl_z1 h)))) hS (fun H1 locs1 h => next t H1 locs1 ht0 ht1 h)
set_option maxRecDepth 100000 in
theorem zcase4 (hH : zH p s m meth c b L xs ex D tys asC asR cs sl ax ay) (hlv : lv_has ls 4 (zlv b ax ay i)) (hi : i + 6 ≤ L) (ht0 : 0 ≤ t) (ht1 : t ≤ 100000) (hS : zSt ex D tys asC asR s t H locs) (next : ∀ (t1 : Int) (H1 : Heap) (locs1 : List Loc), 0 ≤ t1 → t1 ≤ 100000 → zSt ex D tys asC asR s t1 H1 locs1 → W p l e room_1 s m #[Value.ref b] below meth c H1 locs1 cs sl Q (F0 m 1457 ls [])) : W p l e room_1 s m #[Value.ref b] below meth c H locs cs sl Q (F0 m 366 ls []) := by
  have hex := hH.2.2.2.2.2.1.2.2.2.2.2.2.1.1
  have hax := hH.2.2.2.2.2.2.2.1
  have hay := hH.2.2.2.2.2.2.2.2
  obtain ⟨-, c1, r1⟩ := qs_vc (ex := ex) zk_tt zk_aa (k := 0) (pc := 377) rfl
  obtain ⟨-, c2, r2⟩ := qs_vc (ex := ex) zk_tt zk_aa (k := 0) (pc := 392) rfl
  exact zlc2 (off := 1061) (by decide +kernel) (by decide) hH hlv hi c1 r1 rfl (hl_M.or ((zMA_chair (t := t) zk_tt zk_aa hex hax (xs (i + 1)) (xs (i + 2))).to (fun _ ws h => Or.inl (hl_z1 h))) ((zMB_chair (t := t) zk_tt zk_aa hex hax (xs (i + 1)) (xs (i + 2))).to (fun _ ws h => Or.inr (hl_z1 h)))) c2 r2 rfl (hl_M.or ((zM0_chair (t := t) zk_tt zk_aa hex hay (xs (i + 1)) (xs (i + 2))).to (fun _ ws h => Or.inl (hl_z1 h))) ((zM1_chair (t := t) zk_tt zk_aa hex hay (xs (i + 1)) (xs (i + 2))).to (fun _ ws h => Or.inr (hl_z1 h)))) hS (fun H1 locs1 h => next t H1 locs1 ht0 ht1 h)
set_option maxRecDepth 100000 in
theorem zcase5 (hH : zH p s m meth c b L xs ex D tys asC asR cs sl ax ay) (hlv : lv_has ls 4 (zlv b ax ay i)) (hi : i + 6 ≤ L) (ht0 : 0 ≤ t) (ht1 : t ≤ 100000) (hS : zSt ex D tys asC asR s t H locs) (next : ∀ (t1 : Int) (H1 : Heap) (locs1 : List Loc), 0 ≤ t1 → t1 ≤ 100000 → zSt ex D tys asC asR s t1 H1 locs1 → W p l e room_1 s m #[Value.ref b] below meth c H1 locs1 cs sl Q (F0 m 1457 ls [])) : W p l e room_1 s m #[Value.ref b] below meth c H locs cs sl Q (F0 m 399 ls []) := by
  have hex := hH.2.2.2.2.2.1.2.2.2.2.2.2.1.1
  have hax := hH.2.2.2.2.2.2.2.1
  have hay := hH.2.2.2.2.2.2.2.2
  obtain ⟨-, c1, r1⟩ := qs_vc (ex := ex) zk_tt zk_aa (k := 0) (pc := 410) rfl
  obtain ⟨-, c2, r2⟩ := qs_vc (ex := ex) zk_tt zk_aa (k := 0) (pc := 425) rfl
  exact zlc2 (off := 1028) (by decide +kernel) (by decide) hH hlv hi c1 r1 rfl (hl_M.or ((zMA_sitter (t := t) zk_tt zk_aa hex hax (xs (i + 1)) (xs (i + 2))).to (fun _ ws h => Or.inl (hl_z1 h))) ((zMB_sitter (t := t) zk_tt zk_aa hex hax (xs (i + 1)) (xs (i + 2))).to (fun _ ws h => Or.inr (hl_z1 h)))) c2 r2 rfl (hl_M.or ((zM0_sitter (t := t) zk_tt zk_aa hex hay (xs (i + 1)) (xs (i + 2))).to (fun _ ws h => Or.inl (hl_z1 h))) ((zM1_sitter (t := t) zk_tt zk_aa hex hay (xs (i + 1)) (xs (i + 2))).to (fun _ ws h => Or.inr (hl_z1 h)))) hS (fun H1 locs1 h => next t H1 locs1 ht0 ht1 h)
set_option maxRecDepth 100000 in
theorem zcase6 (hH : zH p s m meth c b L xs ex D tys asC asR cs sl ax ay) (hlv : lv_has ls 4 (zlv b ax ay i)) (hi : i + 6 ≤ L) (ht0 : 0 ≤ t) (ht1 : t ≤ 100000) (hS : zSt ex D tys asC asR s t H locs) (next : ∀ (t1 : Int) (H1 : Heap) (locs1 : List Loc), 0 ≤ t1 → t1 ≤ 100000 → zSt ex D tys asC asR s t1 H1 locs1 → W p l e room_1 s m #[Value.ref b] below meth c H1 locs1 cs sl Q (F0 m 1457 ls [])) : W p l e room_1 s m #[Value.ref b] below meth c H locs cs sl Q (F0 m 432 ls []) := by
  have hex := hH.2.2.2.2.2.1.2.2.2.2.2.2.1.1
  have hax := hH.2.2.2.2.2.2.2.1
  have hay := hH.2.2.2.2.2.2.2.2
  obtain ⟨-, c1, r1⟩ := qs_vc (ex := ex) zk_tt zk_aa (k := 0) (pc := 443) rfl
  obtain ⟨-, c2, r2⟩ := qs_vc (ex := ex) zk_tt zk_aa (k := 0) (pc := 458) rfl
  exact zlc2 (off := 995) (by decide +kernel) (by decide) hH hlv hi c1 r1 rfl (hl_M.or ((zMA_had (t := t) zk_tt zk_aa hex hax (xs (i + 1)) (xs (i + 2))).to (fun _ ws h => Or.inl (hl_z1 h))) ((zMB_had (t := t) zk_tt zk_aa hex hax (xs (i + 1)) (xs (i + 2))).to (fun _ ws h => Or.inr (hl_z1 h)))) c2 r2 rfl (hl_M.or ((zM0_had (t := t) zk_tt zk_aa hex hay (xs (i + 1)) (xs (i + 2))).to (fun _ ws h => Or.inl (hl_z1 h))) ((zM1_had (t := t) zk_tt zk_aa hex hay (xs (i + 1)) (xs (i + 2))).to (fun _ ws h => Or.inr (hl_z1 h)))) hS (fun H1 locs1 h => next t H1 locs1 ht0 ht1 h)
set_option maxRecDepth 100000 in
theorem zcase7 (hH : zH p s m meth c b L xs ex D tys asC asR cs sl ax ay) (hlv : lv_has ls 4 (zlv b ax ay i)) (hi : i + 6 ≤ L) (ht0 : 0 ≤ t) (ht1 : t ≤ 100000) (hS : zSt ex D tys asC asR s t H locs) (next : ∀ (t1 : Int) (H1 : Heap) (locs1 : List Loc), 0 ≤ t1 → t1 ≤ 100000 → zSt ex D tys asC asR s t1 H1 locs1 → W p l e room_1 s m #[Value.ref b] below meth c H1 locs1 cs sl Q (F0 m 1457 ls [])) : W p l e room_1 s m #[Value.ref b] below meth c H locs cs sl Q (F0 m 465 ls []) := by
  have hex := hH.2.2.2.2.2.1.2.2.2.2.2.2.1.1
  have hax := hH.2.2.2.2.2.2.2.1
  have hay := hH.2.2.2.2.2.2.2.2
  obtain ⟨-, c1, r1⟩ := qs_vc (ex := ex) zk_tt zk_aa (k := 0) (pc := 466) rfl
  obtain ⟨-, c2, r2⟩ := qs_vc (ex := ex) zk_tt zk_aa (k := 0) (pc := 471) rfl
  exact zlc0 (off := 982) (by decide +kernel) (by decide) hH hlv hi c1 r1 rfl (hl_M.or ((zMA_hour (t := t) zk_tt zk_aa hex hax ).to (fun _ ws h => Or.inl (hl_z1 h))) ((zMB_hour (t := t) zk_tt zk_aa hex hax ).to (fun _ ws h => Or.inr (hl_z1 h)))) c2 r2 rfl (hl_M.or ((zM0_hour (t := t) zk_tt zk_aa hex hay ).to (fun _ ws h => Or.inl (hl_z1 h))) ((zM1_hour (t := t) zk_tt zk_aa hex hay ).to (fun _ ws h => Or.inr (hl_z1 h)))) hS (fun H1 locs1 h => next t H1 locs1 ht0 ht1 h)
set_option maxRecDepth 100000 in
theorem zcase8 (hH : zH p s m meth c b L xs ex D tys asC asR cs sl ax ay) (hlv : lv_has ls 4 (zlv b ax ay i)) (hi : i + 6 ≤ L) (ht0 : 0 ≤ t) (ht1 : t ≤ 100000) (hS : zSt ex D tys asC asR s t H locs) (next : ∀ (t1 : Int) (H1 : Heap) (locs1 : List Loc), 0 ≤ t1 → t1 ≤ 100000 → zSt ex D tys asC asR s t1 H1 locs1 → W p l e room_1 s m #[Value.ref b] below meth c H1 locs1 cs sl Q (F0 m 1457 ls [])) : W p l e room_1 s m #[Value.ref b] below meth c H locs cs sl Q (F0 m 478 ls []) := by
  have hex := hH.2.2.2.2.2.1.2.2.2.2.2.2.1.1
  have hax := hH.2.2.2.2.2.2.2.1
  have hay := hH.2.2.2.2.2.2.2.2
  obtain ⟨-, c1, r1⟩ := qs_vc (ex := ex) zk_tt zk_aa (k := 0) (pc := 489) rfl
  obtain ⟨-, c2, r2⟩ := qs_vc (ex := ex) zk_tt zk_aa (k := 0) (pc := 504) rfl
  exact zlc2 (off := 949) (by decide +kernel) (by decide) hH hlv hi c1 r1 rfl (hl_M.or ((zMA_sit (t := t) zk_tt zk_aa hex hax (xs (i + 1)) (xs (i + 2))).to (fun _ ws h => Or.inl (hl_z1 h))) ((zMB_sit (t := t) zk_tt zk_aa hex hax (xs (i + 1)) (xs (i + 2))).to (fun _ ws h => Or.inr (hl_z1 h)))) c2 r2 rfl (hl_M.or ((zM0_sit (t := t) zk_tt zk_aa hex hay (xs (i + 1)) (xs (i + 2))).to (fun _ ws h => Or.inl (hl_z1 h))) ((zM1_sit (t := t) zk_tt zk_aa hex hay (xs (i + 1)) (xs (i + 2))).to (fun _ ws h => Or.inr (hl_z1 h)))) hS (fun H1 locs1 h => next t H1 locs1 ht0 ht1 h)
set_option maxRecDepth 100000 in
theorem zcase9 (hH : zH p s m meth c b L xs ex D tys asC asR cs sl ax ay) (hlv : lv_has ls 4 (zlv b ax ay i)) (hi : i + 6 ≤ L) (ht0 : 0 ≤ t) (ht1 : t ≤ 100000) (hS : zSt ex D tys asC asR s t H locs) (next : ∀ (t1 : Int) (H1 : Heap) (locs1 : List Loc), 0 ≤ t1 → t1 ≤ 100000 → zSt ex D tys asC asR s t1 H1 locs1 → W p l e room_1 s m #[Value.ref b] below meth c H1 locs1 cs sl Q (F0 m 1457 ls [])) : W p l e room_1 s m #[Value.ref b] below meth c H locs cs sl Q (F0 m 511 ls []) := by
  have hex := hH.2.2.2.2.2.1.2.2.2.2.2.2.1.1
  have hax := hH.2.2.2.2.2.2.2.1
  have hay := hH.2.2.2.2.2.2.2.2
  obtain ⟨-, c1, r1⟩ := qs_vc (ex := ex) zk_tt zk_aa (k := 0) (pc := 517) rfl
  obtain ⟨-, c2, r2⟩ := qs_vc (ex := ex) zk_tt zk_aa (k := 0) (pc := 527) rfl
  exact zlc1 (off := 926) (by decide +kernel) (by decide) hH hlv hi c1 r1 rfl (hl_M.or ((zMA_rise (t := t) zk_tt zk_aa hex hax (xs (i + 1))).to (fun _ ws h => Or.inl (hl_z1 h))) ((zMB_rise (t := t) zk_tt zk_aa hex hax (xs (i + 1))).to (fun _ ws h => Or.inr (hl_z1 h)))) c2 r2 rfl (hl_M.or ((zM0_rise (t := t) zk_tt zk_aa hex hay (xs (i + 1))).to (fun _ ws h => Or.inl (hl_z1 h))) ((zM1_rise (t := t) zk_tt zk_aa hex hay (xs (i + 1))).to (fun _ ws h => Or.inr (hl_z1 h)))) hS (fun H1 locs1 h => next t H1 locs1 ht0 ht1 h)
set_option maxRecDepth 100000 in
theorem zcase10 (hH : zH p s m meth c b L xs ex D tys asC asR cs sl ax ay) (hlv : lv_has ls 4 (zlv b ax ay i)) (hi : i + 6 ≤ L) (ht0 : 0 ≤ t) (ht1 : t ≤ 100000) (hS : zSt ex D tys asC asR s t H locs) (next : ∀ (t1 : Int) (H1 : Heap) (locs1 : List Loc), 0 ≤ t1 → t1 ≤ 100000 → zSt ex D tys asC asR s t1 H1 locs1 → W p l e room_1 s m #[Value.ref b] below meth c H1 locs1 cs sl Q (F0 m 1457 ls [])) : W p l e room_1 s m #[Value.ref b] below meth c H locs cs sl Q (F0 m 534 ls []) := by
  have hex := hH.2.2.2.2.2.1.2.2.2.2.2.2.1.1
  have hax := hH.2.2.2.2.2.2.2.1
  have hay := hH.2.2.2.2.2.2.2.2
  obtain ⟨-, c1, r1⟩ := qs_vc (ex := ex) zk_tt zk_aa (k := 0) (pc := 545) rfl
  obtain ⟨-, c2, r2⟩ := qs_vc (ex := ex) zk_tt zk_aa (k := 0) (pc := 560) rfl
  exact zlc2 (off := 893) (by decide +kernel) (by decide) hH hlv hi c1 r1 rfl (hl_M.or ((zMA_change (t := t) zk_tt zk_aa hex hax (xs (i + 1)) (xs (i + 2))).to (fun _ ws h => Or.inl (hl_z1 h))) ((zMB_change (t := t) zk_tt zk_aa hex hax (xs (i + 1)) (xs (i + 2))).to (fun _ ws h => Or.inr (hl_z1 h)))) c2 r2 rfl (hl_M.or ((zM0_change (t := t) zk_tt zk_aa hex hay (xs (i + 1)) (xs (i + 2))).to (fun _ ws h => Or.inl (hl_z1 h))) ((zM1_change (t := t) zk_tt zk_aa hex hay (xs (i + 1)) (xs (i + 2))).to (fun _ ws h => Or.inr (hl_z1 h)))) hS (fun H1 locs1 h => next t H1 locs1 ht0 ht1 h)
set_option maxRecDepth 100000 in
theorem zcase11 (hH : zH p s m meth c b L xs ex D tys asC asR cs sl ax ay) (hlv : lv_has ls 4 (zlv b ax ay i)) (hi : i + 6 ≤ L) (ht0 : 0 ≤ t) (ht1 : t ≤ 100000) (hS : zSt ex D tys asC asR s t H locs) (next : ∀ (t1 : Int) (H1 : Heap) (locs1 : List Loc), 0 ≤ t1 → t1 ≤ 100000 → zSt ex D tys asC asR s t1 H1 locs1 → W p l e room_1 s m #[Value.ref b] below meth c H1 locs1 cs sl Q (F0 m 1457 ls [])) : W p l e room_1 s m #[Value.ref b] below meth c H locs cs sl Q (F0 m 567 ls []) := by
  have hex := hH.2.2.2.2.2.1.2.2.2.2.2.2.1.1
  have hax := hH.2.2.2.2.2.2.2.1
  have hay := hH.2.2.2.2.2.2.2.2
  obtain ⟨-, c1, r1⟩ := qs_vc (ex := ex) zk_tt zk_aa (k := 0) (pc := 578) rfl
  obtain ⟨-, c2, r2⟩ := qs_vc (ex := ex) zk_tt zk_aa (k := 0) (pc := 593) rfl
  exact zlc2 (off := 860) (by decide +kernel) (by decide) hH hlv hi c1 r1 rfl (hl_M.or ((zMA_move (t := t) zk_tt zk_aa hex hax (xs (i + 1)) (xs (i + 2))).to (fun _ ws h => Or.inl (hl_z1 h))) ((zMB_move (t := t) zk_tt zk_aa hex hax (xs (i + 1)) (xs (i + 2))).to (fun _ ws h => Or.inr (hl_z1 h)))) c2 r2 rfl (hl_M.or ((zM0_move (t := t) zk_tt zk_aa hex hay (xs (i + 1)) (xs (i + 2))).to (fun _ ws h => Or.inl (hl_z1 h))) ((zM1_move (t := t) zk_tt zk_aa hex hay (xs (i + 1)) (xs (i + 2))).to (fun _ ws h => Or.inr (hl_z1 h)))) hS (fun H1 locs1 h => next t H1 locs1 ht0 ht1 h)
set_option maxRecDepth 100000 in
theorem zcase12 (hH : zH p s m meth c b L xs ex D tys asC asR cs sl ax ay) (hlv : lv_has ls 4 (zlv b ax ay i)) (hi : i + 6 ≤ L) (ht0 : 0 ≤ t) (ht1 : t ≤ 100000) (hS : zSt ex D tys asC asR s t H locs) (next : ∀ (t1 : Int) (H1 : Heap) (locs1 : List Loc), 0 ≤ t1 → t1 ≤ 100000 → zSt ex D tys asC asR s t1 H1 locs1 → W p l e room_1 s m #[Value.ref b] below meth c H1 locs1 cs sl Q (F0 m 1457 ls [])) : W p l e room_1 s m #[Value.ref b] below meth c H locs cs sl Q (F0 m 600 ls []) := by
  have hex := hH.2.2.2.2.2.1.2.2.2.2.2.2.1.1
  have hax := hH.2.2.2.2.2.2.2.1
  have hay := hH.2.2.2.2.2.2.2.2
  obtain ⟨-, c1, r1⟩ := qs_vc (ex := ex) zk_tt zk_aa (k := 0) (pc := 611) rfl
  obtain ⟨-, c2, r2⟩ := qs_vc (ex := ex) zk_tt zk_aa (k := 0) (pc := 626) rfl
  exact zlc2 (off := 827) (by decide +kernel) (by decide) hH hlv hi c1 r1 rfl (hl_M.or ((zMA_fill (t := t) zk_tt zk_aa hex hax (xs (i + 1)) (xs (i + 2))).to (fun _ ws h => Or.inl (hl_z1 h))) ((zMB_fill (t := t) zk_tt zk_aa hex hax (xs (i + 1)) (xs (i + 2))).to (fun _ ws h => Or.inr (hl_z1 h)))) c2 r2 rfl (hl_M.or ((zM0_fill (t := t) zk_tt zk_aa hex hay (xs (i + 1)) (xs (i + 2))).to (fun _ ws h => Or.inl (hl_z1 h))) ((zM1_fill (t := t) zk_tt zk_aa hex hay (xs (i + 1)) (xs (i + 2))).to (fun _ ws h => Or.inr (hl_z1 h)))) hS (fun H1 locs1 h => next t H1 locs1 ht0 ht1 h)
set_option maxRecDepth 100000 in
theorem zcase13 (hH : zH p s m meth c b L xs ex D tys asC asR cs sl ax ay) (hlv : lv_has ls 4 (zlv b ax ay i)) (hi : i + 6 ≤ L) (ht0 : 0 ≤ t) (ht1 : t ≤ 100000) (hS : zSt ex D tys asC asR s t H locs) (next : ∀ (t1 : Int) (H1 : Heap) (locs1 : List Loc), 0 ≤ t1 → t1 ≤ 100000 → zSt ex D tys asC asR s t1 H1 locs1 → W p l e room_1 s m #[Value.ref b] below meth c H1 locs1 cs sl Q (F0 m 1457 ls [])) : W p l e room_1 s m #[Value.ref b] below meth c H locs cs sl Q (F0 m 633 ls []) := by
  have hex := hH.2.2.2.2.2.1.2.2.2.2.2.2.1.1
  have hax := hH.2.2.2.2.2.2.2.1
  have hay := hH.2.2.2.2.2.2.2.2
  obtain ⟨-, c1, r1⟩ := qs_vc (ex := ex) zk_tt zk_aa (k := 0) (pc := 634) rfl
  obtain ⟨-, c2, r2⟩ := qs_vc (ex := ex) zk_tt zk_aa (k := 0) (pc := 639) rfl
  exact zlc0 (off := 814) (by decide +kernel) (by decide) hH hlv hi c1 r1 rfl (hl_M.or ((zMA_undo (t := t) zk_tt zk_aa hex hax ).to (fun _ ws h => Or.inl (hl_z1 h))) ((zMB_undo (t := t) zk_tt zk_aa hex hax ).to (fun _ ws h => Or.inr (hl_z1 h)))) c2 r2 rfl (hl_M.or ((zM0_undo (t := t) zk_tt zk_aa hex hay ).to (fun _ ws h => Or.inl (hl_z1 h))) ((zM1_undo (t := t) zk_tt zk_aa hex hay ).to (fun _ ws h => Or.inr (hl_z1 h)))) hS (fun H1 locs1 h => next t H1 locs1 ht0 ht1 h)
set_option maxRecDepth 100000 in
theorem zcase14 (hH : zH p s m meth c b L xs ex D tys asC asR cs sl ax ay) (hlv : lv_has ls 4 (zlv b ax ay i)) (hi : i + 6 ≤ L) (ht0 : 0 ≤ t) (ht1 : t ≤ 100000) (hS : zSt ex D tys asC asR s t H locs) (next : ∀ (t1 : Int) (H1 : Heap) (locs1 : List Loc), 0 ≤ t1 → t1 ≤ 100000 → zSt ex D tys asC asR s t1 H1 locs1 → W p l e room_1 s m #[Value.ref b] below meth c H1 locs1 cs sl Q (F0 m 1457 ls [])) : W p l e room_1 s m #[Value.ref b] below meth c H locs cs sl Q (F0 m 646 ls []) := by
  have hex := hH.2.2.2.2.2.1.2.2.2.2.2.2.1.1
  have hax := hH.2.2.2.2.2.2.2.1
  have hay := hH.2.2.2.2.2.2.2.2
  obtain ⟨-, c1, r1⟩ := qs_vc (ex := ex) zk_tt zk_aa (k := 0) (pc := 647) rfl
  obtain ⟨-, c2, r2⟩ := qs_vc (ex := ex) zk_tt zk_aa (k := 0) (pc := 652) rfl
  exact zlc0 (off := 801) (by decide +kernel) (by decide) hH hlv hi c1 r1 rfl (hl_M.or ((zMA_redo (t := t) zk_tt zk_aa hex hax ).to (fun _ ws h => Or.inl (hl_z1 h))) ((zMB_redo (t := t) zk_tt zk_aa hex hax ).to (fun _ ws h => Or.inr (hl_z1 h)))) c2 r2 rfl (hl_M.or ((zM0_redo (t := t) zk_tt zk_aa hex hay ).to (fun _ ws h => Or.inl (hl_z1 h))) ((zM1_redo (t := t) zk_tt zk_aa hex hay ).to (fun _ ws h => Or.inr (hl_z1 h)))) hS (fun H1 locs1 h => next t H1 locs1 ht0 ht1 h)
set_option maxRecDepth 100000 in
theorem zcase15 (hH : zH p s m meth c b L xs ex D tys asC asR cs sl ax ay) (hlv : lv_has ls 4 (zlv b ax ay i)) (hi : i + 6 ≤ L) (ht0 : 0 ≤ t) (ht1 : t ≤ 100000) (hS : zSt ex D tys asC asR s t H locs) (next : ∀ (t1 : Int) (H1 : Heap) (locs1 : List Loc), 0 ≤ t1 → t1 ≤ 100000 → zSt ex D tys asC asR s t1 H1 locs1 → W p l e room_1 s m #[Value.ref b] below meth c H1 locs1 cs sl Q (F0 m 1457 ls [])) : W p l e room_1 s m #[Value.ref b] below meth c H locs cs sl Q (F0 m 659 ls []) := by
  have hex := hH.2.2.2.2.2.1.2.2.2.2.2.2.1.1
  have hax := hH.2.2.2.2.2.2.2.1
  have hay := hH.2.2.2.2.2.2.2.2
  obtain ⟨-, c1, r1⟩ := qs_vc (ex := ex) zk_tt zk_aa (k := 0) (pc := 670) rfl
  obtain ⟨-, c2, r2⟩ := qs_vc (ex := ex) zk_tt zk_aa (k := 0) (pc := 685) rfl
  exact zlc2 (off := 768) (by decide +kernel) (by decide) hH hlv hi c1 r1 rfl (hl_M.or ((zMA_will (t := t) zk_tt zk_aa hex hax (xs (i + 1)) (xs (i + 2))).to (fun _ ws h => Or.inl (hl_z1 h))) ((zMB_will (t := t) zk_tt zk_aa hex hax (xs (i + 1)) (xs (i + 2))).to (fun _ ws h => Or.inr (hl_z1 h)))) c2 r2 rfl (hl_M.or ((zM0_will (t := t) zk_tt zk_aa hex hay (xs (i + 1)) (xs (i + 2))).to (fun _ ws h => Or.inl (hl_z1 h))) ((zM1_will (t := t) zk_tt zk_aa hex hay (xs (i + 1)) (xs (i + 2))).to (fun _ ws h => Or.inr (hl_z1 h)))) hS (fun H1 locs1 h => next t H1 locs1 ht0 ht1 h)
set_option maxRecDepth 100000 in
theorem zcase16 (hH : zH p s m meth c b L xs ex D tys asC asR cs sl ax ay) (hlv : lv_has ls 4 (zlv b ax ay i)) (hi : i + 6 ≤ L) (ht0 : 0 ≤ t) (ht1 : t ≤ 100000) (hS : zSt ex D tys asC asR s t H locs) (next : ∀ (t1 : Int) (H1 : Heap) (locs1 : List Loc), 0 ≤ t1 → t1 ≤ 100000 → zSt ex D tys asC asR s t1 H1 locs1 → W p l e room_1 s m #[Value.ref b] below meth c H1 locs1 cs sl Q (F0 m 1457 ls [])) : W p l e room_1 s m #[Value.ref b] below meth c H locs cs sl Q (F0 m 692 ls []) := by
  have hex := hH.2.2.2.2.2.1.2.2.2.2.2.2.1.1
  have hax := hH.2.2.2.2.2.2.2.1
  have hay := hH.2.2.2.2.2.2.2.2
  obtain ⟨-, c1, r1⟩ := qs_vc (ex := ex) zk_tt zk_aa (k := 0) (pc := 698) rfl
  obtain ⟨-, c2, r2⟩ := qs_vc (ex := ex) zk_tt zk_aa (k := 0) (pc := 708) rfl
  exact zlc1 (off := 745) (by decide +kernel) (by decide) hH hlv hi c1 r1 rfl (hl_M.or ((zMA_standing (t := t) zk_tt zk_aa hex hax (xs (i + 1))).to (fun _ ws h => Or.inl (hl_z1 h))) ((zMB_standing (t := t) zk_tt zk_aa hex hax (xs (i + 1))).to (fun _ ws h => Or.inr (hl_z1 h)))) c2 r2 rfl (hl_M.or ((zM0_standing (t := t) zk_tt zk_aa hex hay (xs (i + 1))).to (fun _ ws h => Or.inl (hl_z1 h))) ((zM1_standing (t := t) zk_tt zk_aa hex hay (xs (i + 1))).to (fun _ ws h => Or.inr (hl_z1 h)))) hS (fun H1 locs1 h => next t H1 locs1 ht0 ht1 h)
set_option maxRecDepth 100000 in
theorem zcase17 (hH : zH p s m meth c b L xs ex D tys asC asR cs sl ax ay) (hlv : lv_has ls 4 (zlv b ax ay i)) (hi : i + 6 ≤ L) (ht0 : 0 ≤ t) (ht1 : t ≤ 100000) (hS : zSt ex D tys asC asR s t H locs) (next : ∀ (t1 : Int) (H1 : Heap) (locs1 : List Loc), 0 ≤ t1 → t1 ≤ 100000 → zSt ex D tys asC asR s t1 H1 locs1 → W p l e room_1 s m #[Value.ref b] below meth c H1 locs1 cs sl Q (F0 m 1457 ls [])) : W p l e room_1 s m #[Value.ref b] below meth c H locs cs sl Q (F0 m 715 ls []) := by
  have hex := hH.2.2.2.2.2.1.2.2.2.2.2.2.1.1
  have hax := hH.2.2.2.2.2.2.2.1
  have hay := hH.2.2.2.2.2.2.2.2
  obtain ⟨-, c1, r1⟩ := qs_vc (ex := ex) zk_tt zk_aa (k := 0) (pc := 721) rfl
  obtain ⟨-, c2, r2⟩ := qs_vc (ex := ex) zk_tt zk_aa (k := 0) (pc := 731) rfl
  exact zlc1 (off := 722) (by decide +kernel) (by decide) hH hlv hi c1 r1 rfl (hl_M.or ((zMA_out (t := t) zk_tt zk_aa hex hax (xs (i + 1))).to (fun _ ws h => Or.inl (hl_z1 h))) ((zMB_out (t := t) zk_tt zk_aa hex hax (xs (i + 1))).to (fun _ ws h => Or.inr (hl_z1 h)))) c2 r2 rfl (hl_M.or ((zM0_out (t := t) zk_tt zk_aa hex hay (xs (i + 1))).to (fun _ ws h => Or.inl (hl_z1 h))) ((zM1_out (t := t) zk_tt zk_aa hex hay (xs (i + 1))).to (fun _ ws h => Or.inr (hl_z1 h)))) hS (fun H1 locs1 h => next t H1 locs1 ht0 ht1 h)
set_option maxRecDepth 100000 in
theorem zcase18 (hH : zH p s m meth c b L xs ex D tys asC asR cs sl ax ay) (hlv : lv_has ls 4 (zlv b ax ay i)) (hi : i + 6 ≤ L) (ht0 : 0 ≤ t) (ht1 : t ≤ 100000) (hS : zSt ex D tys asC asR s t H locs) (next : ∀ (t1 : Int) (H1 : Heap) (locs1 : List Loc), 0 ≤ t1 → t1 ≤ 100000 → zSt ex D tys asC asR s t1 H1 locs1 → W p l e room_1 s m #[Value.ref b] below meth c H1 locs1 cs sl Q (F0 m 1457 ls [])) : W p l e room_1 s m #[Value.ref b] below meth c H locs cs sl Q (F0 m 738 ls []) := by
  have hex := hH.2.2.2.2.2.1.2.2.2.2.2.2.1.1
  have hax := hH.2.2.2.2.2.2.2.1
  have hay := hH.2.2.2.2.2.2.2.2
  obtain ⟨-, c1, r1⟩ := qs_vc (ex := ex) zk_tt zk_aa (k := 0) (pc := 739) rfl
  obtain ⟨-, c2, r2⟩ := qs_vc (ex := ex) zk_tt zk_aa (k := 0) (pc := 744) rfl
  exact zlc0 (off := 709) (by decide +kernel) (by decide) hH hlv hi c1 r1 rfl (hl_M.or ((zMA_seat (t := t) zk_tt zk_aa hex hax ).to (fun _ ws h => Or.inl (hl_z1 h))) ((zMB_seat (t := t) zk_tt zk_aa hex hax ).to (fun _ ws h => Or.inr (hl_z1 h)))) c2 r2 rfl (hl_M.or ((zM0_seat (t := t) zk_tt zk_aa hex hay ).to (fun _ ws h => Or.inl (hl_z1 h))) ((zM1_seat (t := t) zk_tt zk_aa hex hay ).to (fun _ ws h => Or.inr (hl_z1 h)))) hS (fun H1 locs1 h => next t H1 locs1 ht0 ht1 h)
set_option maxRecDepth 100000 in
theorem zcase19 (hH : zH p s m meth c b L xs ex D tys asC asR cs sl ax ay) (hlv : lv_has ls 4 (zlv b ax ay i)) (hi : i + 6 ≤ L) (ht0 : 0 ≤ t) (ht1 : t ≤ 100000) (hS : zSt ex D tys asC asR s t H locs) (next : ∀ (t1 : Int) (H1 : Heap) (locs1 : List Loc), 0 ≤ t1 → t1 ≤ 100000 → zSt ex D tys asC asR s t1 H1 locs1 → W p l e room_1 s m #[Value.ref b] below meth c H1 locs1 cs sl Q (F0 m 1457 ls [])) : W p l e room_1 s m #[Value.ref b] below meth c H locs cs sl Q (F0 m 751 ls []) := by
  have hex := hH.2.2.2.2.2.1.2.2.2.2.2.2.1.1
  have hax := hH.2.2.2.2.2.2.2.1
  have hay := hH.2.2.2.2.2.2.2.2
  obtain ⟨-, c1, r1⟩ := qs_vc (ex := ex) zk_tt zk_aa (k := 0) (pc := 757) rfl
  obtain ⟨-, c2, r2⟩ := qs_vc (ex := ex) zk_tt zk_aa (k := 0) (pc := 767) rfl
  exact zlc1 (off := 686) (by decide +kernel) (by decide) hH hlv hi c1 r1 rfl (hl_M.or ((zMA_toll (t := t) zk_tt zk_aa hex hax (xs (i + 1))).to (fun _ ws h => Or.inl (hl_z1 h))) ((zMB_toll (t := t) zk_tt zk_aa hex hax (xs (i + 1))).to (fun _ ws h => Or.inr (hl_z1 h)))) c2 r2 rfl (hl_M.or ((zM0_toll (t := t) zk_tt zk_aa hex hay (xs (i + 1))).to (fun _ ws h => Or.inl (hl_z1 h))) ((zM1_toll (t := t) zk_tt zk_aa hex hay (xs (i + 1))).to (fun _ ws h => Or.inr (hl_z1 h)))) hS (fun H1 locs1 h => next t H1 locs1 ht0 ht1 h)
set_option maxRecDepth 100000 in
theorem zcase20 (hH : zH p s m meth c b L xs ex D tys asC asR cs sl ax ay) (hlv : lv_has ls 4 (zlv b ax ay i)) (hi : i + 6 ≤ L) (ht0 : 0 ≤ t) (ht1 : t ≤ 100000) (hS : zSt ex D tys asC asR s t H locs) (next : ∀ (t1 : Int) (H1 : Heap) (locs1 : List Loc), 0 ≤ t1 → t1 ≤ 100000 → zSt ex D tys asC asR s t1 H1 locs1 → W p l e room_1 s m #[Value.ref b] below meth c H1 locs1 cs sl Q (F0 m 1457 ls [])) : W p l e room_1 s m #[Value.ref b] below meth c H locs cs sl Q (F0 m 774 ls []) := by
  have hex := hH.2.2.2.2.2.1.2.2.2.2.2.2.1.1
  have hax := hH.2.2.2.2.2.2.2.1
  have hay := hH.2.2.2.2.2.2.2.2
  obtain ⟨-, c1, r1⟩ := qs_vc (ex := ex) zk_tt zk_aa (k := 0) (pc := 780) rfl
  obtain ⟨-, c2, r2⟩ := qs_vc (ex := ex) zk_tt zk_aa (k := 0) (pc := 790) rfl
  exact zlc1 (off := 663) (by decide +kernel) (by decide) hH hlv hi c1 r1 rfl (hl_M.or ((zMA_opening (t := t) zk_tt zk_aa hex hax (xs (i + 1))).to (fun _ ws h => Or.inl (hl_z1 h))) ((zMB_opening (t := t) zk_tt zk_aa hex hax (xs (i + 1))).to (fun _ ws h => Or.inr (hl_z1 h)))) c2 r2 rfl (hl_M.or ((zM0_opening (t := t) zk_tt zk_aa hex hay (xs (i + 1))).to (fun _ ws h => Or.inl (hl_z1 h))) ((zM1_opening (t := t) zk_tt zk_aa hex hay (xs (i + 1))).to (fun _ ws h => Or.inr (hl_z1 h)))) hS (fun H1 locs1 h => next t H1 locs1 ht0 ht1 h)
set_option maxRecDepth 100000 in
theorem zcase21 (hH : zH p s m meth c b L xs ex D tys asC asR cs sl ax ay) (hlv : lv_has ls 4 (zlv b ax ay i)) (hi : i + 6 ≤ L) (ht0 : 0 ≤ t) (ht1 : t ≤ 100000) (hS : zSt ex D tys asC asR s t H locs) (next : ∀ (t1 : Int) (H1 : Heap) (locs1 : List Loc), 0 ≤ t1 → t1 ≤ 100000 → zSt ex D tys asC asR s t1 H1 locs1 → W p l e room_1 s m #[Value.ref b] below meth c H1 locs1 cs sl Q (F0 m 1457 ls [])) : W p l e room_1 s m #[Value.ref b] below meth c H locs cs sl Q (F0 m 797 ls []) := by
  have hex := hH.2.2.2.2.2.1.2.2.2.2.2.2.1.1
  have hax := hH.2.2.2.2.2.2.2.1
  have hay := hH.2.2.2.2.2.2.2.2
  obtain ⟨-, c1, r1⟩ := qs_vc (ex := ex) zk_tt zk_aa (k := 0) (pc := 803) rfl
  obtain ⟨-, c2, r2⟩ := qs_vc (ex := ex) zk_tt zk_aa (k := 0) (pc := 813) rfl
  exact zlc1 (off := 640) (by decide +kernel) (by decide) hH hlv hi c1 r1 rfl (hl_M.or ((zMA_trade (t := t) zk_tt zk_aa hex hax (xs (i + 1))).to (fun _ ws h => Or.inl (hl_z1 h))) ((zMB_trade (t := t) zk_tt zk_aa hex hax (xs (i + 1))).to (fun _ ws h => Or.inr (hl_z1 h)))) c2 r2 rfl (hl_M.or ((zM0_trade (t := t) zk_tt zk_aa hex hay (xs (i + 1))).to (fun _ ws h => Or.inl (hl_z1 h))) ((zM1_trade (t := t) zk_tt zk_aa hex hay (xs (i + 1))).to (fun _ ws h => Or.inr (hl_z1 h)))) hS (fun H1 locs1 h => next t H1 locs1 ht0 ht1 h)
set_option maxRecDepth 100000 in
theorem zcase22 (hH : zH p s m meth c b L xs ex D tys asC asR cs sl ax ay) (hlv : lv_has ls 4 (zlv b ax ay i)) (hi : i + 6 ≤ L) (ht0 : 0 ≤ t) (ht1 : t ≤ 100000) (hS : zSt ex D tys asC asR s t H locs) (next : ∀ (t1 : Int) (H1 : Heap) (locs1 : List Loc), 0 ≤ t1 → t1 ≤ 100000 → zSt ex D tys asC asR s t1 H1 locs1 → W p l e room_1 s m #[Value.ref b] below meth c H1 locs1 cs sl Q (F0 m 1457 ls [])) : W p l e room_1 s m #[Value.ref b] below meth c H locs cs sl Q (F0 m 820 ls []) := by
  have hex := hH.2.2.2.2.2.1.2.2.2.2.2.2.1.1
  have hax := hH.2.2.2.2.2.2.2.1
  have hay := hH.2.2.2.2.2.2.2.2
  obtain ⟨-, c1, r1⟩ := qs_vc (ex := ex) zk_tt zk_aa (k := 0) (pc := 821) rfl
  obtain ⟨-, c2, r2⟩ := qs_vc (ex := ex) zk_tt zk_aa (k := 0) (pc := 826) rfl
  exact zlc0 (off := 627) (by decide +kernel) (by decide) hH hlv hi c1 r1 rfl (hl_M.or ((zMA_ring (t := t) zk_tt zk_aa hex hax ).to (fun _ ws h => Or.inl (hl_z1 h))) ((zMB_ring (t := t) zk_tt zk_aa hex hax ).to (fun _ ws h => Or.inr (hl_z1 h)))) c2 r2 rfl (hl_M.or ((zM0_ring (t := t) zk_tt zk_aa hex hay ).to (fun _ ws h => Or.inl (hl_z1 h))) ((zM1_ring (t := t) zk_tt zk_aa hex hay ).to (fun _ ws h => Or.inr (hl_z1 h)))) hS (fun H1 locs1 h => next t H1 locs1 ht0 ht1 h)
set_option maxRecDepth 100000 in
theorem zcase23 (hH : zH p s m meth c b L xs ex D tys asC asR cs sl ax ay) (hlv : lv_has ls 4 (zlv b ax ay i)) (hi : i + 6 ≤ L) (ht0 : 0 ≤ t) (ht1 : t ≤ 100000) (hS : zSt ex D tys asC asR s t H locs) (next : ∀ (t1 : Int) (H1 : Heap) (locs1 : List Loc), 0 ≤ t1 → t1 ≤ 100000 → zSt ex D tys asC asR s t1 H1 locs1 → W p l e room_1 s m #[Value.ref b] below meth c H1 locs1 cs sl Q (F0 m 1457 ls [])) : W p l e room_1 s m #[Value.ref b] below meth c H locs cs sl Q (F0 m 833 ls []) := by
  have hex := hH.2.2.2.2.2.1.2.2.2.2.2.2.1.1
  have hax := hH.2.2.2.2.2.2.2.1
  have hay := hH.2.2.2.2.2.2.2.2
  obtain ⟨-, c1, r1⟩ := qs_vc (ex := ex) zk_tt zk_aa (k := 0) (pc := 839) rfl
  obtain ⟨-, c2, r2⟩ := qs_vc (ex := ex) zk_tt zk_aa (k := 0) (pc := 849) rfl
  exact zlc1 (off := 604) (by decide +kernel) (by decide) hH hlv hi c1 r1 rfl (hl_M.or ((zMA_envy (t := t) zk_tt zk_aa hex hax (xs (i + 1))).to (fun _ ws h => Or.inl (hl_z1 h))) ((zMB_envy (t := t) zk_tt zk_aa hex hax (xs (i + 1))).to (fun _ ws h => Or.inr (hl_z1 h)))) c2 r2 rfl (hl_M.or ((zM0_envy (t := t) zk_tt zk_aa hex hay (xs (i + 1))).to (fun _ ws h => Or.inl (hl_z1 h))) ((zM1_envy (t := t) zk_tt zk_aa hex hay (xs (i + 1))).to (fun _ ws h => Or.inr (hl_z1 h)))) hS (fun H1 locs1 h => next t H1 locs1 ht0 ht1 h)
set_option maxRecDepth 100000 in
theorem zcase24 (hH : zH p s m meth c b L xs ex D tys asC asR cs sl ax ay) (hlv : lv_has ls 4 (zlv b ax ay i)) (hi : i + 6 ≤ L) (ht0 : 0 ≤ t) (ht1 : t ≤ 100000) (hS : zSt ex D tys asC asR s t H locs) (next : ∀ (t1 : Int) (H1 : Heap) (locs1 : List Loc), 0 ≤ t1 → t1 ≤ 100000 → zSt ex D tys asC asR s t1 H1 locs1 → W p l e room_1 s m #[Value.ref b] below meth c H1 locs1 cs sl Q (F0 m 1457 ls [])) : W p l e room_1 s m #[Value.ref b] below meth c H locs cs sl Q (F0 m 856 ls []) := by
  have hex := hH.2.2.2.2.2.1.2.2.2.2.2.2.1.1
  have hax := hH.2.2.2.2.2.2.2.1
  have hay := hH.2.2.2.2.2.2.2.2
  obtain ⟨-, c1, r1⟩ := qs_vc (ex := ex) zk_tt zk_aa (k := 0) (pc := 867) rfl
  obtain ⟨-, c2, r2⟩ := qs_vc (ex := ex) zk_tt zk_aa (k := 0) (pc := 882) rfl
  exact zlc2 (off := 571) (by decide +kernel) (by decide) hH hlv hi c1 r1 rfl (hl_M.or ((zMA_row (t := t) zk_tt zk_aa hex hax (xs (i + 1)) (xs (i + 2))).to (fun _ ws h => Or.inl (hl_z1 h))) ((zMB_row (t := t) zk_tt zk_aa hex hax (xs (i + 1)) (xs (i + 2))).to (fun _ ws h => Or.inr (hl_z1 h)))) c2 r2 rfl (hl_M.or ((zM0_row (t := t) zk_tt zk_aa hex hay (xs (i + 1)) (xs (i + 2))).to (fun _ ws h => Or.inl (hl_z1 h))) ((zM1_row (t := t) zk_tt zk_aa hex hay (xs (i + 1)) (xs (i + 2))).to (fun _ ws h => Or.inr (hl_z1 h)))) hS (fun H1 locs1 h => next t H1 locs1 ht0 ht1 h)
set_option maxRecDepth 100000 in
theorem zcase25 (hH : zH p s m meth c b L xs ex D tys asC asR cs sl ax ay) (hlv : lv_has ls 4 (zlv b ax ay i)) (hi : i + 6 ≤ L) (ht0 : 0 ≤ t) (ht1 : t ≤ 100000) (hS : zSt ex D tys asC asR s t H locs) (next : ∀ (t1 : Int) (H1 : Heap) (locs1 : List Loc), 0 ≤ t1 → t1 ≤ 100000 → zSt ex D tys asC asR s t1 H1 locs1 → W p l e room_1 s m #[Value.ref b] below meth c H1 locs1 cs sl Q (F0 m 1457 ls [])) : W p l e room_1 s m #[Value.ref b] below meth c H locs cs sl Q (F0 m 889 ls []) := by
  have hex := hH.2.2.2.2.2.1.2.2.2.2.2.2.1.1
  have hax := hH.2.2.2.2.2.2.2.1
  have hay := hH.2.2.2.2.2.2.2.2
  obtain ⟨-, c1, r1⟩ := qs_vc (ex := ex) zk_tt zk_aa (k := 0) (pc := 900) rfl
  obtain ⟨-, c2, r2⟩ := qs_vc (ex := ex) zk_tt zk_aa (k := 0) (pc := 915) rfl
  exact zlc2 (off := 538) (by decide +kernel) (by decide) hH hlv hi c1 r1 rfl (hl_M.or ((zMA_rivals (t := t) zk_tt zk_aa hex hax (xs (i + 1)) (xs (i + 2))).to (fun _ ws h => Or.inl (hl_z1 h))) ((zMB_rivals (t := t) zk_tt zk_aa hex hax (xs (i + 1)) (xs (i + 2))).to (fun _ ws h => Or.inr (hl_z1 h)))) c2 r2 rfl (hl_M.or ((zM0_rivals (t := t) zk_tt zk_aa hex hay (xs (i + 1)) (xs (i + 2))).to (fun _ ws h => Or.inl (hl_z1 h))) ((zM1_rivals (t := t) zk_tt zk_aa hex hay (xs (i + 1)) (xs (i + 2))).to (fun _ ws h => Or.inr (hl_z1 h)))) hS (fun H1 locs1 h => next t H1 locs1 ht0 ht1 h)
set_option maxRecDepth 100000 in
theorem zcase26 (hH : zH p s m meth c b L xs ex D tys asC asR cs sl ax ay) (hlv : lv_has ls 4 (zlv b ax ay i)) (hi : i + 6 ≤ L) (ht0 : 0 ≤ t) (ht1 : t ≤ 100000) (hS : zSt ex D tys asC asR s t H locs) (next : ∀ (t1 : Int) (H1 : Heap) (locs1 : List Loc), 0 ≤ t1 → t1 ≤ 100000 → zSt ex D tys asC asR s t1 H1 locs1 → W p l e room_1 s m #[Value.ref b] below meth c H1 locs1 cs sl Q (F0 m 1457 ls [])) : W p l e room_1 s m #[Value.ref b] below meth c H locs cs sl Q (F0 m 922 ls []) := by
  have hex := hH.2.2.2.2.2.1.2.2.2.2.2.2.1.1
  have hax := hH.2.2.2.2.2.2.2.1
  have hay := hH.2.2.2.2.2.2.2.2
  obtain ⟨-, c1, r1⟩ := qs_vc (ex := ex) zk_tt zk_aa (k := 0) (pc := 933) rfl
  obtain ⟨-, c2, r2⟩ := qs_vc (ex := ex) zk_tt zk_aa (k := 0) (pc := 948) rfl
  exact zlc2 (off := 505) (by decide +kernel) (by decide) hH hlv hi c1 r1 rfl (hl_M.or ((zMA_best (t := t) zk_tt zk_aa hex hax (xs (i + 1)) (xs (i + 2))).to (fun _ ws h => Or.inl (hl_z1 h))) ((zMB_best (t := t) zk_tt zk_aa hex hax (xs (i + 1)) (xs (i + 2))).to (fun _ ws h => Or.inr (hl_z1 h)))) c2 r2 rfl (hl_M.or ((zM0_best (t := t) zk_tt zk_aa hex hay (xs (i + 1)) (xs (i + 2))).to (fun _ ws h => Or.inl (hl_z1 h))) ((zM1_best (t := t) zk_tt zk_aa hex hay (xs (i + 1)) (xs (i + 2))).to (fun _ ws h => Or.inr (hl_z1 h)))) hS (fun H1 locs1 h => next t H1 locs1 ht0 ht1 h)
set_option maxRecDepth 100000 in
theorem zcase27 (hH : zH p s m meth c b L xs ex D tys asC asR cs sl ax ay) (hlv : lv_has ls 4 (zlv b ax ay i)) (hi : i + 6 ≤ L) (ht0 : 0 ≤ t) (ht1 : t ≤ 100000) (hS : zSt ex D tys asC asR s t H locs) (next : ∀ (t1 : Int) (H1 : Heap) (locs1 : List Loc), 0 ≤ t1 → t1 ≤ 100000 → zSt ex D tys asC asR s t1 H1 locs1 → W p l e room_1 s m #[Value.ref b] below meth c H1 locs1 cs sl Q (F0 m 1457 ls [])) : W p l e room_1 s m #[Value.ref b] below meth c H locs cs sl Q (F0 m 955 ls []) := by
  have hex := hH.2.2.2.2.2.1.2.2.2.2.2.2.1.1
  have hax := hH.2.2.2.2.2.2.2.1
  have hay := hH.2.2.2.2.2.2.2.2
  obtain ⟨-, c1, r1⟩ := qs_vc (ex := ex) zk_tt zk_aa (k := 0) (pc := 966) rfl
  obtain ⟨-, c2, r2⟩ := qs_vc (ex := ex) zk_tt zk_aa (k := 0) (pc := 981) rfl
  exact zlc2 (off := 472) (by decide +kernel) (by decide) hH hlv hi c1 r1 rfl (hl_M.or ((zMA_noon (t := t) zk_tt zk_aa hex hax (xs (i + 1)) (xs (i + 2))).to (fun _ ws h => Or.inl (hl_z1 h))) ((zMB_noon (t := t) zk_tt zk_aa hex hax (xs (i + 1)) (xs (i + 2))).to (fun _ ws h => Or.inr (hl_z1 h)))) c2 r2 rfl (hl_M.or ((zM0_noon (t := t) zk_tt zk_aa hex hay (xs (i + 1)) (xs (i + 2))).to (fun _ ws h => Or.inl (hl_z1 h))) ((zM1_noon (t := t) zk_tt zk_aa hex hay (xs (i + 1)) (xs (i + 2))).to (fun _ ws h => Or.inr (hl_z1 h)))) hS (fun H1 locs1 h => next t H1 locs1 ht0 ht1 h)
set_option maxRecDepth 100000 in
theorem zcase28 (hH : zH p s m meth c b L xs ex D tys asC asR cs sl ax ay) (hlv : lv_has ls 4 (zlv b ax ay i)) (hi : i + 6 ≤ L) (ht0 : 0 ≤ t) (ht1 : t ≤ 100000) (hS : zSt ex D tys asC asR s t H locs) (next : ∀ (t1 : Int) (H1 : Heap) (locs1 : List Loc), 0 ≤ t1 → t1 ≤ 100000 → zSt ex D tys asC asR s t1 H1 locs1 → W p l e room_1 s m #[Value.ref b] below meth c H1 locs1 cs sl Q (F0 m 1457 ls [])) : W p l e room_1 s m #[Value.ref b] below meth c H locs cs sl Q (F0 m 988 ls []) := by
  have hex := hH.2.2.2.2.2.1.2.2.2.2.2.2.1.1
  have hax := hH.2.2.2.2.2.2.2.1
  have hay := hH.2.2.2.2.2.2.2.2
  obtain ⟨-, c1, r1⟩ := qs_vc (ex := ex) zk_tt zk_aa (k := 0) (pc := 989) rfl
  obtain ⟨-, c2, r2⟩ := qs_vc (ex := ex) zk_tt zk_aa (k := 0) (pc := 994) rfl
  exact zlc0 (off := 459) (by decide +kernel) (by decide) hH hlv hi c1 r1 rfl (hl_M.or ((zMA_lonely (t := t) zk_tt zk_aa hex hax ).to (fun _ ws h => Or.inl (hl_z1 h))) ((zMB_lonely (t := t) zk_tt zk_aa hex hax ).to (fun _ ws h => Or.inr (hl_z1 h)))) c2 r2 rfl (hl_M.or ((zM0_lonely (t := t) zk_tt zk_aa hex hay ).to (fun _ ws h => Or.inl (hl_z1 h))) ((zM1_lonely (t := t) zk_tt zk_aa hex hay ).to (fun _ ws h => Or.inr (hl_z1 h)))) hS (fun H1 locs1 h => next t H1 locs1 ht0 ht1 h)
set_option maxRecDepth 100000 in
theorem zcase29 (hH : zH p s m meth c b L xs ex D tys asC asR cs sl ax ay) (hlv : lv_has ls 4 (zlv b ax ay i)) (hi : i + 6 ≤ L) (ht0 : 0 ≤ t) (ht1 : t ≤ 100000) (hS : zSt ex D tys asC asR s t H locs) (next : ∀ (t1 : Int) (H1 : Heap) (locs1 : List Loc), 0 ≤ t1 → t1 ≤ 100000 → zSt ex D tys asC asR s t1 H1 locs1 → W p l e room_1 s m #[Value.ref b] below meth c H1 locs1 cs sl Q (F0 m 1457 ls [])) : W p l e room_1 s m #[Value.ref b] below meth c H locs cs sl Q (F0 m 1001 ls []) := by
  have hex := hH.2.2.2.2.2.1.2.2.2.2.2.2.1.1
  have hax := hH.2.2.2.2.2.2.2.1
  have hay := hH.2.2.2.2.2.2.2.2
  obtain ⟨-, c1, r1⟩ := qs_vc (ex := ex) zk_tt zk_aa (k := 0) (pc := 1002) rfl
  obtain ⟨-, c2, r2⟩ := qs_vc (ex := ex) zk_tt zk_aa (k := 0) (pc := 1007) rfl
  exact zlc0 (off := 446) (by decide +kernel) (by decide) hH hlv hi c1 r1 rfl (hl_M.or ((zMA_gap (t := t) zk_tt zk_aa hex hax ).to (fun _ ws h => Or.inl (hl_z1 h))) ((zMB_gap (t := t) zk_tt zk_aa hex hax ).to (fun _ ws h => Or.inr (hl_z1 h)))) c2 r2 rfl (hl_M.or ((zM0_gap (t := t) zk_tt zk_aa hex hay ).to (fun _ ws h => Or.inl (hl_z1 h))) ((zM1_gap (t := t) zk_tt zk_aa hex hay ).to (fun _ ws h => Or.inr (hl_z1 h)))) hS (fun H1 locs1 h => next t H1 locs1 ht0 ht1 h)
set_option maxRecDepth 100000 in
theorem zcase30 (hH : zH p s m meth c b L xs ex D tys asC asR cs sl ax ay) (hlv : lv_has ls 4 (zlv b ax ay i)) (hi : i + 6 ≤ L) (ht0 : 0 ≤ t) (ht1 : t ≤ 100000) (hS : zSt ex D tys asC asR s t H locs) (next : ∀ (t1 : Int) (H1 : Heap) (locs1 : List Loc), 0 ≤ t1 → t1 ≤ 100000 → zSt ex D tys asC asR s t1 H1 locs1 → W p l e room_1 s m #[Value.ref b] below meth c H1 locs1 cs sl Q (F0 m 1457 ls [])) : W p l e room_1 s m #[Value.ref b] below meth c H locs cs sl Q (F0 m 1014 ls []) := by
  have hex := hH.2.2.2.2.2.1.2.2.2.2.2.2.1.1
  have hax := hH.2.2.2.2.2.2.2.1
  have hay := hH.2.2.2.2.2.2.2.2
  obtain ⟨-, c1, r1⟩ := qs_vc (ex := ex) zk_tt zk_aa (k := 0) (pc := 1015) rfl
  obtain ⟨-, c2, r2⟩ := qs_vc (ex := ex) zk_tt zk_aa (k := 0) (pc := 1020) rfl
  exact zlc0 (off := 433) (by decide +kernel) (by decide) hH hlv hi c1 r1 rfl (hl_M.or ((zMA_broke (t := t) zk_tt zk_aa hex hax ).to (fun _ ws h => Or.inl (hl_z1 h))) ((zMB_broke (t := t) zk_tt zk_aa hex hax ).to (fun _ ws h => Or.inr (hl_z1 h)))) c2 r2 rfl (hl_M.or ((zM0_broke (t := t) zk_tt zk_aa hex hay ).to (fun _ ws h => Or.inl (hl_z1 h))) ((zM1_broke (t := t) zk_tt zk_aa hex hay ).to (fun _ ws h => Or.inr (hl_z1 h)))) hS (fun H1 locs1 h => next t H1 locs1 ht0 ht1 h)
set_option maxRecDepth 100000 in
theorem zcase31 (hH : zH p s m meth c b L xs ex D tys asC asR cs sl ax ay) (hlv : lv_has ls 4 (zlv b ax ay i)) (hi : i + 6 ≤ L) (ht0 : 0 ≤ t) (ht1 : t ≤ 100000) (hS : zSt ex D tys asC asR s t H locs) (next : ∀ (t1 : Int) (H1 : Heap) (locs1 : List Loc), 0 ≤ t1 → t1 ≤ 100000 → zSt ex D tys asC asR s t1 H1 locs1 → W p l e room_1 s m #[Value.ref b] below meth c H1 locs1 cs sl Q (F0 m 1457 ls [])) : W p l e room_1 s m #[Value.ref b] below meth c H locs cs sl Q (F0 m 1027 ls []) := by
  have hex := hH.2.2.2.2.2.1.2.2.2.2.2.2.1.1
  have hax := hH.2.2.2.2.2.2.2.1
  have hay := hH.2.2.2.2.2.2.2.2
  obtain ⟨-, c1, r1⟩ := qs_vc (ex := ex) zk_tt zk_aa (k := 0) (pc := 1028) rfl
  obtain ⟨-, c2, r2⟩ := qs_vc (ex := ex) zk_tt zk_aa (k := 0) (pc := 1033) rfl
  exact zlc0 (off := 420) (by decide +kernel) (by decide) hH hlv hi c1 r1 rfl (hl_M.or ((zMA_throne (t := t) zk_tt zk_aa hex hax ).to (fun _ ws h => Or.inl (hl_z1 h))) ((zMB_throne (t := t) zk_tt zk_aa hex hax ).to (fun _ ws h => Or.inr (hl_z1 h)))) c2 r2 rfl (hl_M.or ((zM0_throne (t := t) zk_tt zk_aa hex hay ).to (fun _ ws h => Or.inl (hl_z1 h))) ((zM1_throne (t := t) zk_tt zk_aa hex hay ).to (fun _ ws h => Or.inr (hl_z1 h)))) hS (fun H1 locs1 h => next t H1 locs1 ht0 ht1 h)
set_option maxRecDepth 100000 in
theorem zcase32 (hH : zH p s m meth c b L xs ex D tys asC asR cs sl ax ay) (hlv : lv_has ls 4 (zlv b ax ay i)) (hi : i + 6 ≤ L) (ht0 : 0 ≤ t) (ht1 : t ≤ 100000) (hS : zSt ex D tys asC asR s t H locs) (next : ∀ (t1 : Int) (H1 : Heap) (locs1 : List Loc), 0 ≤ t1 → t1 ≤ 100000 → zSt ex D tys asC asR s t1 H1 locs1 → W p l e room_1 s m #[Value.ref b] below meth c H1 locs1 cs sl Q (F0 m 1457 ls [])) : W p l e room_1 s m #[Value.ref b] below meth c H locs cs sl Q (F0 m 1040 ls []) := by
  have hex := hH.2.2.2.2.2.1.2.2.2.2.2.2.1.1
  have hax := hH.2.2.2.2.2.2.2.1
  have hay := hH.2.2.2.2.2.2.2.2
  obtain ⟨-, c1, r1⟩ := qs_vc (ex := ex) zk_tt zk_aa (k := 0) (pc := 1041) rfl
  obtain ⟨-, c2, r2⟩ := qs_vc (ex := ex) zk_tt zk_aa (k := 0) (pc := 1046) rfl
  exact zlc0 (off := 407) (by decide +kernel) (by decide) hH hlv hi c1 r1 rfl (hl_M.or ((zMA_couples (t := t) zk_tt zk_aa hex hax ).to (fun _ ws h => Or.inl (hl_z1 h))) ((zMB_couples (t := t) zk_tt zk_aa hex hax ).to (fun _ ws h => Or.inr (hl_z1 h)))) c2 r2 rfl (hl_M.or ((zM0_couples (t := t) zk_tt zk_aa hex hay ).to (fun _ ws h => Or.inl (hl_z1 h))) ((zM1_couples (t := t) zk_tt zk_aa hex hay ).to (fun _ ws h => Or.inr (hl_z1 h)))) hS (fun H1 locs1 h => next t H1 locs1 ht0 ht1 h)
set_option maxRecDepth 100000 in
theorem zcase33 (hH : zH p s m meth c b L xs ex D tys asC asR cs sl ax ay) (hlv : lv_has ls 4 (zlv b ax ay i)) (hi : i + 6 ≤ L) (ht0 : 0 ≤ t) (ht1 : t ≤ 100000) (hS : zSt ex D tys asC asR s t H locs) (next : ∀ (t1 : Int) (H1 : Heap) (locs1 : List Loc), 0 ≤ t1 → t1 ≤ 100000 → zSt ex D tys asC asR s t1 H1 locs1 → W p l e room_1 s m #[Value.ref b] below meth c H1 locs1 cs sl Q (F0 m 1457 ls [])) : W p l e room_1 s m #[Value.ref b] below meth c H locs cs sl Q (F0 m 1053 ls []) := by
  have hex := hH.2.2.2.2.2.1.2.2.2.2.2.2.1.1
  have hax := hH.2.2.2.2.2.2.2.1
  have hay := hH.2.2.2.2.2.2.2.2
  obtain ⟨-, c1, r1⟩ := qs_vc (ex := ex) zk_tt zk_aa (k := 0) (pc := 1054) rfl
  obtain ⟨-, c2, r2⟩ := qs_vc (ex := ex) zk_tt zk_aa (k := 0) (pc := 1059) rfl
  exact zlc0 (off := 394) (by decide +kernel) (by decide) hH hlv hi c1 r1 rfl (hl_M.or ((zMA_veteran (t := t) zk_tt zk_aa hex hax ).to (fun _ ws h => Or.inl (hl_z1 h))) ((zMB_veteran (t := t) zk_tt zk_aa hex hax ).to (fun _ ws h => Or.inr (hl_z1 h)))) c2 r2 rfl (hl_M.or ((zM0_veteran (t := t) zk_tt zk_aa hex hay ).to (fun _ ws h => Or.inl (hl_z1 h))) ((zM1_veteran (t := t) zk_tt zk_aa hex hay ).to (fun _ ws h => Or.inr (hl_z1 h)))) hS (fun H1 locs1 h => next t H1 locs1 ht0 ht1 h)
set_option maxRecDepth 100000 in
theorem zcase34 (hH : zH p s m meth c b L xs ex D tys asC asR cs sl ax ay) (hlv : lv_has ls 4 (zlv b ax ay i)) (hi : i + 6 ≤ L) (ht0 : 0 ≤ t) (ht1 : t ≤ 100000) (hS : zSt ex D tys asC asR s t H locs) (next : ∀ (t1 : Int) (H1 : Heap) (locs1 : List Loc), 0 ≤ t1 → t1 ≤ 100000 → zSt ex D tys asC asR s t1 H1 locs1 → W p l e room_1 s m #[Value.ref b] below meth c H1 locs1 cs sl Q (F0 m 1457 ls [])) : W p l e room_1 s m #[Value.ref b] below meth c H locs cs sl Q (F0 m 1066 ls []) := by
  have hex := hH.2.2.2.2.2.1.2.2.2.2.2.2.1.1
  have hax := hH.2.2.2.2.2.2.2.1
  have hay := hH.2.2.2.2.2.2.2.2
  obtain ⟨-, c1, r1⟩ := qs_vc (ex := ex) zk_tt zk_aa (k := 0) (pc := 1067) rfl
  obtain ⟨-, c2, r2⟩ := qs_vc (ex := ex) zk_tt zk_aa (k := 0) (pc := 1072) rfl
  exact zlc0 (off := 381) (by decide +kernel) (by decide) hH hlv hi c1 r1 rfl (hl_M.or ((zMA_richest (t := t) zk_tt zk_aa hex hax ).to (fun _ ws h => Or.inl (hl_z1 h))) ((zMB_richest (t := t) zk_tt zk_aa hex hax ).to (fun _ ws h => Or.inr (hl_z1 h)))) c2 r2 rfl (hl_M.or ((zM0_richest (t := t) zk_tt zk_aa hex hay ).to (fun _ ws h => Or.inl (hl_z1 h))) ((zM1_richest (t := t) zk_tt zk_aa hex hay ).to (fun _ ws h => Or.inr (hl_z1 h)))) hS (fun H1 locs1 h => next t H1 locs1 ht0 ht1 h)
set_option maxRecDepth 100000 in
theorem zcase35 (hH : zH p s m meth c b L xs ex D tys asC asR cs sl ax ay) (hlv : lv_has ls 4 (zlv b ax ay i)) (hi : i + 6 ≤ L) (ht0 : 0 ≤ t) (ht1 : t ≤ 100000) (hS : zSt ex D tys asC asR s t H locs) (next : ∀ (t1 : Int) (H1 : Heap) (locs1 : List Loc), 0 ≤ t1 → t1 ≤ 100000 → zSt ex D tys asC asR s t1 H1 locs1 → W p l e room_1 s m #[Value.ref b] below meth c H1 locs1 cs sl Q (F0 m 1457 ls [])) : W p l e room_1 s m #[Value.ref b] below meth c H locs cs sl Q (F0 m 1079 ls []) := by
  have hex := hH.2.2.2.2.2.1.2.2.2.2.2.2.1.1
  have hax := hH.2.2.2.2.2.2.2.1
  have hay := hH.2.2.2.2.2.2.2.2
  obtain ⟨-, c1, r1⟩ := qs_vc (ex := ex) zk_tt zk_aa (k := 0) (pc := 1080) rfl
  obtain ⟨-, c2, r2⟩ := qs_vc (ex := ex) zk_tt zk_aa (k := 0) (pc := 1085) rfl
  exact zlc0 (off := 368) (by decide +kernel) (by decide) hH hlv hi c1 r1 rfl (hl_M.or ((zMA_takings (t := t) zk_tt zk_aa hex hax ).to (fun _ ws h => Or.inl (hl_z1 h))) ((zMB_takings (t := t) zk_tt zk_aa hex hax ).to (fun _ ws h => Or.inr (hl_z1 h)))) c2 r2 rfl (hl_M.or ((zM0_takings (t := t) zk_tt zk_aa hex hay ).to (fun _ ws h => Or.inl (hl_z1 h))) ((zM1_takings (t := t) zk_tt zk_aa hex hay ).to (fun _ ws h => Or.inr (hl_z1 h)))) hS (fun H1 locs1 h => next t H1 locs1 ht0 ht1 h)
set_option maxRecDepth 100000 in
theorem zcase36 (hH : zH p s m meth c b L xs ex D tys asC asR cs sl ax ay) (hlv : lv_has ls 4 (zlv b ax ay i)) (hi : i + 6 ≤ L) (ht0 : 0 ≤ t) (ht1 : t ≤ 100000) (hS : zSt ex D tys asC asR s t H locs) (next : ∀ (t1 : Int) (H1 : Heap) (locs1 : List Loc), 0 ≤ t1 → t1 ≤ 100000 → zSt ex D tys asC asR s t1 H1 locs1 → W p l e room_1 s m #[Value.ref b] below meth c H1 locs1 cs sl Q (F0 m 1457 ls [])) : W p l e room_1 s m #[Value.ref b] below meth c H locs cs sl Q (F0 m 1092 ls []) := by
  have hex := hH.2.2.2.2.2.1.2.2.2.2.2.2.1.1
  have hax := hH.2.2.2.2.2.2.2.1
  have hay := hH.2.2.2.2.2.2.2.2
  obtain ⟨-, c1, r1⟩ := qs_vc (ex := ex) zk_tt zk_aa (k := 0) (pc := 1098) rfl
  obtain ⟨-, c2, r2⟩ := qs_vc (ex := ex) zk_tt zk_aa (k := 0) (pc := 1108) rfl
  exact zlc1 (off := 345) (by decide +kernel) (by decide) hH hlv hi c1 r1 rfl (hl_M.or ((zMA_law (t := t) zk_tt zk_aa hex hax (xs (i + 1))).to (fun _ ws h => Or.inl (hl_z1 h))) ((zMB_law (t := t) zk_tt zk_aa hex hax (xs (i + 1))).to (fun _ ws h => Or.inr (hl_z1 h)))) c2 r2 rfl (hl_M.or ((zM0_law (t := t) zk_tt zk_aa hex hay (xs (i + 1))).to (fun _ ws h => Or.inl (hl_z1 h))) ((zM1_law (t := t) zk_tt zk_aa hex hay (xs (i + 1))).to (fun _ ws h => Or.inr (hl_z1 h)))) hS (fun H1 locs1 h => next t H1 locs1 ht0 ht1 h)
set_option maxRecDepth 100000 in
theorem zcase37 (hH : zH p s m meth c b L xs ex D tys asC asR cs sl ax ay) (hlv : lv_has ls 4 (zlv b ax ay i)) (hi : i + 6 ≤ L) (ht0 : 0 ≤ t) (ht1 : t ≤ 100000) (hS : zSt ex D tys asC asR s t H locs) (next : ∀ (t1 : Int) (H1 : Heap) (locs1 : List Loc), 0 ≤ t1 → t1 ≤ 100000 → zSt ex D tys asC asR s t1 H1 locs1 → W p l e room_1 s m #[Value.ref b] below meth c H1 locs1 cs sl Q (F0 m 1457 ls [])) : W p l e room_1 s m #[Value.ref b] below meth c H locs cs sl Q (F0 m 1115 ls []) := by
  have hex := hH.2.2.2.2.2.1.2.2.2.2.2.2.1.1
  have hax := hH.2.2.2.2.2.2.2.1
  have hay := hH.2.2.2.2.2.2.2.2
  obtain ⟨-, c1, r1⟩ := qs_vc (ex := ex) zk_tt zk_aa (k := 0) (pc := 1121) rfl
  obtain ⟨-, c2, r2⟩ := qs_vc (ex := ex) zk_tt zk_aa (k := 0) (pc := 1130) rfl
  refine zlcL (off := 324) (t1 := t) (F := hl_w 9 6 (xs (i + 1)).toInt) (by decide +kernel) (by decide) hH hlv hi c1 r1 rfl (hl_M.or ((zMA_worstR (t := t) zk_tt zk_aa hex hax (xs (i + 1))).to (fun r ws h => ⟨h.1, Or.inl h.2⟩)) ((zMB_worstR (t := t) zk_tt zk_aa hex hax (xs (i + 1))).to (fun r ws h => ⟨h.1, Or.inr h.2⟩))) c2 r2 rfl (hl_M.or ((zM0_worstR (t := t) zk_tt zk_aa hex hay (xs (i + 1))).to (fun r ws h => ⟨h.1, Or.inl h.2⟩)) ((zM1_worstR (t := t) zk_tt zk_aa hex hay (xs (i + 1))).to (fun r ws h => ⟨h.1, Or.inr h.2⟩))) hS (fun H1 locs1 h => next _ H1 locs1 ?_ ?_ h)
  · exact ht0
  · exact ht1
set_option maxRecDepth 100000 in
theorem zcase38 (hH : zH p s m meth c b L xs ex D tys asC asR cs sl ax ay) (hlv : lv_has ls 4 (zlv b ax ay i)) (hi : i + 6 ≤ L) (ht0 : 0 ≤ t) (ht1 : t ≤ 100000) (hS : zSt ex D tys asC asR s t H locs) (next : ∀ (t1 : Int) (H1 : Heap) (locs1 : List Loc), 0 ≤ t1 → t1 ≤ 100000 → zSt ex D tys asC asR s t1 H1 locs1 → W p l e room_1 s m #[Value.ref b] below meth c H1 locs1 cs sl Q (F0 m 1457 ls [])) : W p l e room_1 s m #[Value.ref b] below meth c H locs cs sl Q (F0 m 1138 ls []) := by
  have hex := hH.2.2.2.2.2.1.2.2.2.2.2.2.1.1
  have hax := hH.2.2.2.2.2.2.2.1
  have hay := hH.2.2.2.2.2.2.2.2
  obtain ⟨-, c1, r1⟩ := qs_vc (ex := ex) zk_tt zk_aa (k := 0) (pc := 1149) rfl
  obtain ⟨-, c2, r2⟩ := qs_vc (ex := ex) zk_tt zk_aa (k := 0) (pc := 1164) rfl
  exact zlc2 (off := 289) (by decide +kernel) (by decide) hH hlv hi c1 r1 rfl (hl_M.or ((zMA_odds (t := t) zk_tt zk_aa hex hax (xs (i + 1)) (xs (i + 2))).to (fun _ ws h => Or.inl (hl_z1 h))) ((zMB_odds (t := t) zk_tt zk_aa hex hax (xs (i + 1)) (xs (i + 2))).to (fun _ ws h => Or.inr (hl_z1 h)))) c2 r2 rfl (hl_M.or ((zM0_odds (t := t) zk_tt zk_aa hex hay (xs (i + 1)) (xs (i + 2))).to (fun _ ws h => Or.inl (hl_z1 h))) ((zM1_odds (t := t) zk_tt zk_aa hex hay (xs (i + 1)) (xs (i + 2))).to (fun _ ws h => Or.inr (hl_z1 h)))) hS (fun H1 locs1 h => next t H1 locs1 ht0 ht1 h)
set_option maxRecDepth 100000 in
theorem zcase39 (hH : zH p s m meth c b L xs ex D tys asC asR cs sl ax ay) (hlv : lv_has ls 4 (zlv b ax ay i)) (hi : i + 6 ≤ L) (ht0 : 0 ≤ t) (ht1 : t ≤ 100000) (hS : zSt ex D tys asC asR s t H locs) (next : ∀ (t1 : Int) (H1 : Heap) (locs1 : List Loc), 0 ≤ t1 → t1 ≤ 100000 → zSt ex D tys asC asR s t1 H1 locs1 → W p l e room_1 s m #[Value.ref b] below meth c H1 locs1 cs sl Q (F0 m 1457 ls [])) : W p l e room_1 s m #[Value.ref b] below meth c H locs cs sl Q (F0 m 1171 ls []) := by
  have hex := hH.2.2.2.2.2.1.2.2.2.2.2.2.1.1
  have hax := hH.2.2.2.2.2.2.2.1
  have hay := hH.2.2.2.2.2.2.2.2
  obtain ⟨-, c1, r1⟩ := qs_vc (ex := ex) zk_tt zk_aa (k := 0) (pc := 1177) rfl
  obtain ⟨-, c2, r2⟩ := qs_vc (ex := ex) zk_tt zk_aa (k := 0) (pc := 1187) rfl
  exact zlc1 (off := 266) (by decide +kernel) (by decide) hH hlv hi c1 r1 rfl (hl_M.or ((zMA_lies (t := t) zk_tt zk_aa hex hax (xs (i + 1))).to (fun _ ws h => Or.inl (hl_z1 h))) ((zMB_lies (t := t) zk_tt zk_aa hex hax (xs (i + 1))).to (fun _ ws h => Or.inr (hl_z1 h)))) c2 r2 rfl (hl_M.or ((zM0_lies (t := t) zk_tt zk_aa hex hay (xs (i + 1))).to (fun _ ws h => Or.inl (hl_z1 h))) ((zM1_lies (t := t) zk_tt zk_aa hex hay (xs (i + 1))).to (fun _ ws h => Or.inr (hl_z1 h)))) hS (fun H1 locs1 h => next t H1 locs1 ht0 ht1 h)
set_option maxRecDepth 100000 in
theorem zcase40 (hH : zH p s m meth c b L xs ex D tys asC asR cs sl ax ay) (hlv : lv_has ls 4 (zlv b ax ay i)) (hi : i + 6 ≤ L) (ht0 : 0 ≤ t) (ht1 : t ≤ 100000) (hS : zSt ex D tys asC asR s t H locs) (next : ∀ (t1 : Int) (H1 : Heap) (locs1 : List Loc), 0 ≤ t1 → t1 ≤ 100000 → zSt ex D tys asC asR s t1 H1 locs1 → W p l e room_1 s m #[Value.ref b] below meth c H1 locs1 cs sl Q (F0 m 1457 ls [])) : W p l e room_1 s m #[Value.ref b] below meth c H locs cs sl Q (F0 m 1194 ls []) := by
  have hex := hH.2.2.2.2.2.1.2.2.2.2.2.2.1.1
  have hax := hH.2.2.2.2.2.2.2.1
  have hay := hH.2.2.2.2.2.2.2.2
  obtain ⟨-, c1, r1⟩ := qs_vc (ex := ex) zk_tt zk_aa (k := 0) (pc := 1218) rfl
  obtain ⟨-, c2, r2⟩ := qs_vc (ex := ex) zk_tt zk_aa (k := 0) (pc := 1246) rfl
  exact zlc3 (off := 207) (by decide +kernel) (by decide) hH hlv hi c1 r1 rfl (hl_M.or ((zMA_seen (t := t) zk_tt zk_aa hex hax (xs (i + 1)) (xs (i + 2)) (zbl (xs (i + 3))) (zbl_or _)).to (fun _ ws h => Or.inl (hl_z1 h))) ((zMB_seen (t := t) zk_tt zk_aa hex hax (xs (i + 1)) (xs (i + 2)) (zbl (xs (i + 3))) (zbl_or _)).to (fun _ ws h => Or.inr (hl_z1 h)))) c2 r2 rfl (hl_M.or ((zM0_seen (t := t) zk_tt zk_aa hex hay (xs (i + 1)) (xs (i + 2)) (zbl (xs (i + 3))) (zbl_or _)).to (fun _ ws h => Or.inl (hl_z1 h))) ((zM1_seen (t := t) zk_tt zk_aa hex hay (xs (i + 1)) (xs (i + 2)) (zbl (xs (i + 3))) (zbl_or _)).to (fun _ ws h => Or.inr (hl_z1 h)))) hS (fun H1 locs1 h => next t H1 locs1 ht0 ht1 h)
set_option maxRecDepth 100000 in
theorem zcase41 (hH : zH p s m meth c b L xs ex D tys asC asR cs sl ax ay) (hlv : lv_has ls 4 (zlv b ax ay i)) (hi : i + 6 ≤ L) (ht0 : 0 ≤ t) (ht1 : t ≤ 100000) (hS : zSt ex D tys asC asR s t H locs) (next : ∀ (t1 : Int) (H1 : Heap) (locs1 : List Loc), 0 ≤ t1 → t1 ≤ 100000 → zSt ex D tys asC asR s t1 H1 locs1 → W p l e room_1 s m #[Value.ref b] below meth c H1 locs1 cs sl Q (F0 m 1457 ls [])) : W p l e room_1 s m #[Value.ref b] below meth c H locs cs sl Q (F0 m 1253 ls []) := by
  have hex := hH.2.2.2.2.2.1.2.2.2.2.2.2.1.1
  have hax := hH.2.2.2.2.2.2.2.1
  have hay := hH.2.2.2.2.2.2.2.2
  obtain ⟨-, c1, r1⟩ := qs_vc (ex := ex) zk_tt zk_aa (k := 0) (pc := 1259) rfl
  obtain ⟨-, c2, r2⟩ := qs_vc (ex := ex) zk_tt zk_aa (k := 0) (pc := 1269) rfl
  exact zlc1 (off := 184) (by decide +kernel) (by decide) hH hlv hi c1 r1 rfl (hl_M.or ((zMA_untell (t := t) zk_tt zk_aa hex hax (xs (i + 1))).to (fun _ ws h => Or.inl (hl_z1 h))) ((zMB_untell (t := t) zk_tt zk_aa hex hax (xs (i + 1))).to (fun _ ws h => Or.inr (hl_z1 h)))) c2 r2 rfl (hl_M.or ((zM0_untell (t := t) zk_tt zk_aa hex hay (xs (i + 1))).to (fun _ ws h => Or.inl (hl_z1 h))) ((zM1_untell (t := t) zk_tt zk_aa hex hay (xs (i + 1))).to (fun _ ws h => Or.inr (hl_z1 h)))) hS (fun H1 locs1 h => next t H1 locs1 ht0 ht1 h)
set_option maxRecDepth 100000 in
theorem zcase42 (hH : zH p s m meth c b L xs ex D tys asC asR cs sl ax ay) (hlv : lv_has ls 4 (zlv b ax ay i)) (hi : i + 6 ≤ L) (ht0 : 0 ≤ t) (ht1 : t ≤ 100000) (hS : zSt ex D tys asC asR s t H locs) (next : ∀ (t1 : Int) (H1 : Heap) (locs1 : List Loc), 0 ≤ t1 → t1 ≤ 100000 → zSt ex D tys asC asR s t1 H1 locs1 → W p l e room_1 s m #[Value.ref b] below meth c H1 locs1 cs sl Q (F0 m 1457 ls [])) : W p l e room_1 s m #[Value.ref b] below meth c H locs cs sl Q (F0 m 1276 ls []) := by
  have hex := hH.2.2.2.2.2.1.2.2.2.2.2.2.1.1
  have hax := hH.2.2.2.2.2.2.2.1
  have hay := hH.2.2.2.2.2.2.2.2
  obtain ⟨-, c1, r1⟩ := qs_vc (ex := ex) zk_tt zk_aa (k := 0) (pc := 1282) rfl
  obtain ⟨-, c2, r2⟩ := qs_vc (ex := ex) zk_tt zk_aa (k := 0) (pc := 1292) rfl
  refine zlcT (off := 161) (t1 := hl_t t (xs (i + 1)).toInt) (by decide +kernel) (by decide) hH hlv hi c1 r1 rfl (hl_M.or ((zMA_later zk_tt zk_aa hex hax (xs (i + 1)) ht0 ht1).to (fun r ws h => Or.inl h.2)) ((zMB_later zk_tt zk_aa hex hax (xs (i + 1)) ht0 ht1).to (fun r ws h => Or.inr h.2))) c2 r2 rfl (hl_M.or ((zM0_later zk_tt zk_aa hex hay (xs (i + 1)) ht0 ht1).to (fun r ws h => Or.inl h.2)) ((zM1_later zk_tt zk_aa hex hay (xs (i + 1)) ht0 ht1).to (fun r ws h => Or.inr h.2))) hS (fun H1 locs1 h => next _ H1 locs1 ?_ ?_ h)
  · unfold hl_t; split <;> omega
  · unfold hl_t; split <;> omega
set_option maxRecDepth 100000 in
theorem zcase43 (hH : zH p s m meth c b L xs ex D tys asC asR cs sl ax ay) (hlv : lv_has ls 4 (zlv b ax ay i)) (hi : i + 6 ≤ L) (ht0 : 0 ≤ t) (ht1 : t ≤ 100000) (hS : zSt ex D tys asC asR s t H locs) (next : ∀ (t1 : Int) (H1 : Heap) (locs1 : List Loc), 0 ≤ t1 → t1 ≤ 100000 → zSt ex D tys asC asR s t1 H1 locs1 → W p l e room_1 s m #[Value.ref b] below meth c H1 locs1 cs sl Q (F0 m 1457 ls [])) : W p l e room_1 s m #[Value.ref b] below meth c H locs cs sl Q (F0 m 1299 ls []) := by
  have hex := hH.2.2.2.2.2.1.2.2.2.2.2.2.1.1
  have hax := hH.2.2.2.2.2.2.2.1
  have hay := hH.2.2.2.2.2.2.2.2
  obtain ⟨-, c1, r1⟩ := qs_vc (ex := ex) zk_tt zk_aa (k := 0) (pc := 1305) rfl
  obtain ⟨-, c2, r2⟩ := qs_vc (ex := ex) zk_tt zk_aa (k := 0) (pc := 1315) rfl
  exact zlc1 (off := 138) (by decide +kernel) (by decide) hH hlv hi c1 r1 rfl (hl_M.or ((zMA_fits (t := t) zk_tt zk_aa hex hax (xs (i + 1))).to (fun _ ws h => Or.inl (hl_z1 h))) ((zMB_fits (t := t) zk_tt zk_aa hex hax (xs (i + 1))).to (fun _ ws h => Or.inr (hl_z1 h)))) c2 r2 rfl (hl_M.or ((zM0_fits (t := t) zk_tt zk_aa hex hay (xs (i + 1))).to (fun _ ws h => Or.inl (hl_z1 h))) ((zM1_fits (t := t) zk_tt zk_aa hex hay (xs (i + 1))).to (fun _ ws h => Or.inr (hl_z1 h)))) hS (fun H1 locs1 h => next t H1 locs1 ht0 ht1 h)
set_option maxRecDepth 100000 in
theorem zcase44 (hH : zH p s m meth c b L xs ex D tys asC asR cs sl ax ay) (hlv : lv_has ls 4 (zlv b ax ay i)) (hi : i + 6 ≤ L) (ht0 : 0 ≤ t) (ht1 : t ≤ 100000) (hS : zSt ex D tys asC asR s t H locs) (next : ∀ (t1 : Int) (H1 : Heap) (locs1 : List Loc), 0 ≤ t1 → t1 ≤ 100000 → zSt ex D tys asC asR s t1 H1 locs1 → W p l e room_1 s m #[Value.ref b] below meth c H1 locs1 cs sl Q (F0 m 1457 ls [])) : W p l e room_1 s m #[Value.ref b] below meth c H locs cs sl Q (F0 m 1322 ls []) := by
  have hex := hH.2.2.2.2.2.1.2.2.2.2.2.2.1.1
  have hax := hH.2.2.2.2.2.2.2.1
  have hay := hH.2.2.2.2.2.2.2.2
  obtain ⟨-, c1, r1⟩ := qs_vc (ex := ex) zk_tt zk_aa (k := 0) (pc := 1333) rfl
  obtain ⟨-, c2, r2⟩ := qs_vc (ex := ex) zk_tt zk_aa (k := 0) (pc := 1348) rfl
  exact zlc2 (off := 105) (by decide +kernel) (by decide) hH hlv hi c1 r1 rfl (hl_M.or ((zMA_sure (t := t) zk_tt zk_aa hex hax (xs (i + 1)) (xs (i + 2))).to (fun _ ws h => Or.inl (hl_z1 h))) ((zMB_sure (t := t) zk_tt zk_aa hex hax (xs (i + 1)) (xs (i + 2))).to (fun _ ws h => Or.inr (hl_z1 h)))) c2 r2 rfl (hl_M.or ((zM0_sure (t := t) zk_tt zk_aa hex hay (xs (i + 1)) (xs (i + 2))).to (fun _ ws h => Or.inl (hl_z1 h))) ((zM1_sure (t := t) zk_tt zk_aa hex hay (xs (i + 1)) (xs (i + 2))).to (fun _ ws h => Or.inr (hl_z1 h)))) hS (fun H1 locs1 h => next t H1 locs1 ht0 ht1 h)
set_option maxRecDepth 100000 in
theorem zcase45 (hH : zH p s m meth c b L xs ex D tys asC asR cs sl ax ay) (hlv : lv_has ls 4 (zlv b ax ay i)) (hi : i + 6 ≤ L) (ht0 : 0 ≤ t) (ht1 : t ≤ 100000) (hS : zSt ex D tys asC asR s t H locs) (next : ∀ (t1 : Int) (H1 : Heap) (locs1 : List Loc), 0 ≤ t1 → t1 ≤ 100000 → zSt ex D tys asC asR s t1 H1 locs1 → W p l e room_1 s m #[Value.ref b] below meth c H1 locs1 cs sl Q (F0 m 1457 ls [])) : W p l e room_1 s m #[Value.ref b] below meth c H locs cs sl Q (F0 m 1355 ls []) := by
  have hex := hH.2.2.2.2.2.1.2.2.2.2.2.2.1.1
  have hax := hH.2.2.2.2.2.2.2.1
  have hay := hH.2.2.2.2.2.2.2.2
  obtain ⟨-, c1, r1⟩ := qs_vc (ex := ex) zk_tt zk_aa (k := 0) (pc := 1366) rfl
  obtain ⟨-, c2, r2⟩ := qs_vc (ex := ex) zk_tt zk_aa (k := 0) (pc := 1381) rfl
  exact zlc2 (off := 72) (by decide +kernel) (by decide) hH hlv hi c1 r1 rfl (hl_M.or ((zMA_ask (t := t) zk_tt zk_aa hex hax (xs (i + 1)) (xs (i + 2))).to (fun _ ws h => Or.inl (hl_z1 h))) ((zMB_ask (t := t) zk_tt zk_aa hex hax (xs (i + 1)) (xs (i + 2))).to (fun _ ws h => Or.inr (hl_z1 h)))) c2 r2 rfl (hl_M.or ((zM0_ask (t := t) zk_tt zk_aa hex hay (xs (i + 1)) (xs (i + 2))).to (fun _ ws h => Or.inl (hl_z1 h))) ((zM1_ask (t := t) zk_tt zk_aa hex hay (xs (i + 1)) (xs (i + 2))).to (fun _ ws h => Or.inr (hl_z1 h)))) hS (fun H1 locs1 h => next t H1 locs1 ht0 ht1 h)
set_option maxRecDepth 100000 in
theorem zcase46 (hH : zH p s m meth c b L xs ex D tys asC asR cs sl ax ay) (hlv : lv_has ls 4 (zlv b ax ay i)) (hi : i + 6 ≤ L) (ht0 : 0 ≤ t) (ht1 : t ≤ 100000) (hS : zSt ex D tys asC asR s t H locs) (next : ∀ (t1 : Int) (H1 : Heap) (locs1 : List Loc), 0 ≤ t1 → t1 ≤ 100000 → zSt ex D tys asC asR s t1 H1 locs1 → W p l e room_1 s m #[Value.ref b] below meth c H1 locs1 cs sl Q (F0 m 1457 ls [])) : W p l e room_1 s m #[Value.ref b] below meth c H locs cs sl Q (F0 m 1388 ls []) := by
  have hex := hH.2.2.2.2.2.1.2.2.2.2.2.2.1.1
  have hax := hH.2.2.2.2.2.2.2.1
  have hay := hH.2.2.2.2.2.2.2.2
  obtain ⟨-, c1, r1⟩ := qs_vc (ex := ex) zk_tt zk_aa (k := 0) (pc := 1394) rfl
  obtain ⟨-, c2, r2⟩ := qs_vc (ex := ex) zk_tt zk_aa (k := 0) (pc := 1404) rfl
  exact zlc1 (off := 49) (by decide +kernel) (by decide) hH hlv hi c1 r1 rfl (hl_M.or ((zMA_image (t := t) zk_tt zk_aa hex hax (xs (i + 1))).to (fun _ ws h => Or.inl (hl_z1 h))) ((zMB_image (t := t) zk_tt zk_aa hex hax (xs (i + 1))).to (fun _ ws h => Or.inr (hl_z1 h)))) c2 r2 rfl (hl_M.or ((zM0_image (t := t) zk_tt zk_aa hex hay (xs (i + 1))).to (fun _ ws h => Or.inl (hl_z1 h))) ((zM1_image (t := t) zk_tt zk_aa hex hay (xs (i + 1))).to (fun _ ws h => Or.inr (hl_z1 h)))) hS (fun H1 locs1 h => next t H1 locs1 ht0 ht1 h)
set_option maxRecDepth 100000 in
theorem zcase47 (hH : zH p s m meth c b L xs ex D tys asC asR cs sl ax ay) (hlv : lv_has ls 4 (zlv b ax ay i)) (hi : i + 6 ≤ L) (ht0 : 0 ≤ t) (ht1 : t ≤ 100000) (hS : zSt ex D tys asC asR s t H locs) (next : ∀ (t1 : Int) (H1 : Heap) (locs1 : List Loc), 0 ≤ t1 → t1 ≤ 100000 → zSt ex D tys asC asR s t1 H1 locs1 → W p l e room_1 s m #[Value.ref b] below meth c H1 locs1 cs sl Q (F0 m 1457 ls [])) : W p l e room_1 s m #[Value.ref b] below meth c H locs cs sl Q (F0 m 1411 ls []) := by
  have hex := hH.2.2.2.2.2.1.2.2.2.2.2.2.1.1
  have hax := hH.2.2.2.2.2.2.2.1
  have hay := hH.2.2.2.2.2.2.2.2
  obtain ⟨-, c1, r1⟩ := qs_vc (ex := ex) zk_tt zk_aa (k := 0) (pc := 1417) rfl
  obtain ⟨-, c2, r2⟩ := qs_vc (ex := ex) zk_tt zk_aa (k := 0) (pc := 1427) rfl
  exact zlc1 (off := 26) (by decide +kernel) (by decide) hH hlv hi c1 r1 rfl (hl_M.or ((zMA_back (t := t) zk_tt zk_aa hex hax (xs (i + 1))).to (fun _ ws h => Or.inl (hl_z1 h))) ((zMB_back (t := t) zk_tt zk_aa hex hax (xs (i + 1))).to (fun _ ws h => Or.inr (hl_z1 h)))) c2 r2 rfl (hl_M.or ((zM0_back (t := t) zk_tt zk_aa hex hay (xs (i + 1))).to (fun _ ws h => Or.inl (hl_z1 h))) ((zM1_back (t := t) zk_tt zk_aa hex hay (xs (i + 1))).to (fun _ ws h => Or.inr (hl_z1 h)))) hS (fun H1 locs1 h => next t H1 locs1 ht0 ht1 h)
set_option maxRecDepth 100000 in
theorem zcase48 (hH : zH p s m meth c b L xs ex D tys asC asR cs sl ax ay) (hlv : lv_has ls 4 (zlv b ax ay i)) (hi : i + 6 ≤ L) (ht0 : 0 ≤ t) (ht1 : t ≤ 100000) (hS : zSt ex D tys asC asR s t H locs) (next : ∀ (t1 : Int) (H1 : Heap) (locs1 : List Loc), 0 ≤ t1 → t1 ≤ 100000 → zSt ex D tys asC asR s t1 H1 locs1 → W p l e room_1 s m #[Value.ref b] below meth c H1 locs1 cs sl Q (F0 m 1457 ls [])) : W p l e room_1 s m #[Value.ref b] below meth c H locs cs sl Q (F0 m 1434 ls []) := by
  have hex := hH.2.2.2.2.2.1.2.2.2.2.2.2.1.1
  have hax := hH.2.2.2.2.2.2.2.1
  have hay := hH.2.2.2.2.2.2.2.2
  obtain ⟨-, c1, r1⟩ := qs_vc (ex := ex) zk_tt zk_aa (k := 0) (pc := 1440) rfl
  obtain ⟨-, c2, r2⟩ := qs_vc (ex := ex) zk_tt zk_aa (k := 0) (pc := 1450) rfl
  exact zlc1 (off := 3) (by decide +kernel) (by decide) hH hlv hi c1 r1 rfl (hl_M.or ((zMA_about (t := t) zk_tt zk_aa hex hax (xs (i + 1))).to (fun _ ws h => Or.inl (hl_z1 h))) ((zMB_about (t := t) zk_tt zk_aa hex hax (xs (i + 1))).to (fun _ ws h => Or.inr (hl_z1 h)))) c2 r2 rfl (hl_M.or ((zM0_about (t := t) zk_tt zk_aa hex hay (xs (i + 1))).to (fun _ ws h => Or.inl (hl_z1 h))) ((zM1_about (t := t) zk_tt zk_aa hex hay (xs (i + 1))).to (fun _ ws h => Or.inr (hl_z1 h)))) hS (fun H1 locs1 h => next t H1 locs1 ht0 ht1 h)
end ZLP
