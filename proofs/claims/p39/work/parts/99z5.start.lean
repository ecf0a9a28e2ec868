/-! THE CLAIM (by program: wip/p44/emstart.py) -/
set_option maxRecDepth 100000 in
theorem zv_i1 : zx_pz (zx_run zx_xa0 100000 (30, 0, 8, 200, 20000) zx_g0 [] 0 0 [(0, .inr (.inr (.inr (.inr (.inl 1)))))] [] 0) zx_g0 zx_wc 73 11339 zx_lc [] = true := by decide +kernel
theorem zd_18 : decode code 18 = .ok (.iload_n 3, 1) := by decide +kernel
theorem zd_19 : decode code 19 = .ok (.aload_n 0, 1) := by decide +kernel
theorem zd_20 : decode code 20 = .ok (.arraylength, 1) := by decide +kernel
theorem zd_21 : decode code 21 = .ok (.bipush 6, 2) := by decide +kernel
theorem zd_23 : decode code 23 = .ok (.isub, 1) := by decide +kernel
theorem zd_24 : decode code 24 = .ok (.if_icmp .gt 1439, 3) := by decide +kernel
theorem zd_27 : decode code 27 = .ok (.aload_n 0, 1) := by decide +kernel
theorem zd_28 : decode code 28 = .ok (.iload_n 3, 1) := by decide +kernel
theorem zd_29 : decode code 29 = .ok (.iaload, 1) := by decide +kernel
theorem zd_30 : decode code 30 = .ok (.bipush 63, 2) := by decide +kernel
theorem zd_32 : decode code 32 = .ok (.iand, 1) := by decide +kernel
theorem zd_33 : decode code 33 = .ok (.tableswitch 1424 0 48 #[211, 274, 297, 310, 333, 366, 399, 432, 445, 478, 501, 534, 567, 600, 613, 626, 659, 682, 705, 718, 741, 764, 787, 800, 823, 856, 889, 922, 955, 968, 981, 994, 1007, 1020, 1033, 1046, 1059, 1082, 1105, 1138, 1161, 1220, 1243, 1266, 1289, 1322, 1355, 1378, 1401], 211) := by decide +kernel
theorem zd_1457 : decode code 1457 = .ok (.iinc 3 6, 3) := by decide +kernel
theorem zd_1460 : decode code 1460 = .ok (.goto (-1442), 3) := by decide +kernel
theorem zd_1463 : decode code 1463 = .ok (.iconst 1, 1) := by decide +kernel
theorem zd_1464 : decode code 1464 = .ok (.ireturn, 1) := by decide +kernel
def zq_offs : Array Int := #[211, 274, 297, 310, 333, 366, 399, 432, 445, 478, 501, 534, 567, 600, 613, 626, 659, 682, 705, 718, 741, 764, 787, 800, 823, 856, 889, 922, 955, 968, 981, 994, 1007, 1020, 1033, 1046, 1059, 1082, 1105, 1138, 1161, 1220, 1243, 1266, 1289, 1322, 1355, 1378, 1401]
theorem zq_i6 {L : Nat} (hL : L ≤ 3072) : (Int32.ofNat L - 6).toInt = (L : Int) - 6 := by
  rw [Int32.toInt_sub]
  have e1 : (Int32.ofNat L).toInt = (L : Int) := nI_toInt (n := L) (by omega)
  have e2 : (6 : Int32).toInt = 6 := by decide
  rw [e1, e2]
  exact Int.bmod_eq_of_le (by omega) (by omega)
section ZST
variable {p : Program} {l : Launch} {e : Env} {s : State} {m : MethodId} {below : List Frame} {meth : Method} {c : Code} {b L : Nat} {xs : Nat → Int32} {ex : Nat → Value} {D : va_G} {tys : List (ClassId × FieldType)} {asC asR : List Nat} {ax ay : Nat}
theorem zq_sw (hH : zH p s m meth c b L xs ex D tys asC asR 109 19183 ax ay) {i : Nat} {ls : Array Slot} {t : Int} {H : Heap} {locs : List Loc} (hlv : lv_has ls 4 (zlv b ax ay i)) (hi : i + 6 ≤ L) (ht0 : 0 ≤ t) (ht1 : t ≤ 100000) (hS : zSt ex D tys asC asR s t H locs) {Q : State → Prop} (next : ∀ (t1 : Int) (H1 : Heap) (locs1 : List Loc), 0 ≤ t1 → t1 ≤ 100000 → zSt ex D tys asC asR s t1 H1 locs1 → W p l e room_1 s m #[Value.ref b] below meth c H1 locs1 109 19183 Q (F0 m 1457 ls [])) : ∀ j, j < 49 → ∃ (off : Int) (tgt : Nat), zq_offs[j]? = some off ∧ ((33 : Nat) : Int) + off = (tgt : Int) ∧ W p l e room_1 s m #[Value.ref b] below meth c H locs 109 19183 Q (F0 m tgt ls []) := by
  intro j hj
  match j, hj with
  | 0, _ => exact ⟨211, 244, rfl, rfl, zcase0 hH hlv hi ht0 ht1 hS next⟩
  | 1, _ => exact ⟨274, 307, rfl, rfl, zcase1 hH hlv hi ht0 ht1 hS next⟩
  | 2, _ => exact ⟨297, 330, rfl, rfl, zcase2 hH hlv hi ht0 ht1 hS next⟩
  | 3, _ => exact ⟨310, 343, rfl, rfl, zcase3 hH hlv hi ht0 ht1 hS next⟩
  | 4, _ => exact ⟨333, 366, rfl, rfl, zcase4 hH hlv hi ht0 ht1 hS next⟩
  | 5, _ => exact ⟨366, 399, rfl, rfl, zcase5 hH hlv hi ht0 ht1 hS next⟩
  | 6, _ => exact ⟨399, 432, rfl, rfl, zcase6 hH hlv hi ht0 ht1 hS next⟩
  | 7, _ => exact ⟨432, 465, rfl, rfl, zcase7 hH hlv hi ht0 ht1 hS next⟩
  | 8, _ => exact ⟨445, 478, rfl, rfl, zcase8 hH hlv hi ht0 ht1 hS next⟩
  | 9, _ => exact ⟨478, 511, rfl, rfl, zcase9 hH hlv hi ht0 ht1 hS next⟩
  | 10, _ => exact ⟨501, 534, rfl, rfl, zcase10 hH hlv hi ht0 ht1 hS next⟩
  | 11, _ => exact ⟨534, 567, rfl, rfl, zcase11 hH hlv hi ht0 ht1 hS next⟩
  | 12, _ => exact ⟨567, 600, rfl, rfl, zcase12 hH hlv hi ht0 ht1 hS next⟩
  | 13, _ => exact ⟨600, 633, rfl, rfl, zcase13 hH hlv hi ht0 ht1 hS next⟩
  | 14, _ => exact ⟨613, 646, rfl, rfl, zcase14 hH hlv hi ht0 ht1 hS next⟩
  | 15, _ => exact ⟨626, 659, rfl, rfl, zcase15 hH hlv hi ht0 ht1 hS next⟩
  | 16, _ => exact ⟨659, 692, rfl, rfl, zcase16 hH hlv hi ht0 ht1 hS next⟩
  | 17, _ => exact ⟨682, 715, rfl, rfl, zcase17 hH hlv hi ht0 ht1 hS next⟩
  | 18, _ => exact ⟨705, 738, rfl, rfl, zcase18 hH hlv hi ht0 ht1 hS next⟩
  | 19, _ => exact ⟨718, 751, rfl, rfl, zcase19 hH hlv hi ht0 ht1 hS next⟩
  | 20, _ => exact ⟨741, 774, rfl, rfl, zcase20 hH hlv hi ht0 ht1 hS next⟩
  | 21, _ => exact ⟨764, 797, rfl, rfl, zcase21 hH hlv hi ht0 ht1 hS next⟩
  | 22, _ => exact ⟨787, 820, rfl, rfl, zcase22 hH hlv hi ht0 ht1 hS next⟩
  | 23, _ => exact ⟨800, 833, rfl, rfl, zcase23 hH hlv hi ht0 ht1 hS next⟩
  | 24, _ => exact ⟨823, 856, rfl, rfl, zcase24 hH hlv hi ht0 ht1 hS next⟩
  | 25, _ => exact ⟨856, 889, rfl, rfl, zcase25 hH hlv hi ht0 ht1 hS next⟩
  | 26, _ => exact ⟨889, 922, rfl, rfl, zcase26 hH hlv hi ht0 ht1 hS next⟩
  | 27, _ => exact ⟨922, 955, rfl, rfl, zcase27 hH hlv hi ht0 ht1 hS next⟩
  | 28, _ => exact ⟨955, 988, rfl, rfl, zcase28 hH hlv hi ht0 ht1 hS next⟩
  | 29, _ => exact ⟨968, 1001, rfl, rfl, zcase29 hH hlv hi ht0 ht1 hS next⟩
  | 30, _ => exact ⟨981, 1014, rfl, rfl, zcase30 hH hlv hi ht0 ht1 hS next⟩
  | 31, _ => exact ⟨994, 1027, rfl, rfl, zcase31 hH hlv hi ht0 ht1 hS next⟩
  | 32, _ => exact ⟨1007, 1040, rfl, rfl, zcase32 hH hlv hi ht0 ht1 hS next⟩
  | 33, _ => exact ⟨1020, 1053, rfl, rfl, zcase33 hH hlv hi ht0 ht1 hS next⟩
  | 34, _ => exact ⟨1033, 1066, rfl, rfl, zcase34 hH hlv hi ht0 ht1 hS next⟩
  | 35, _ => exact ⟨1046, 1079, rfl, rfl, zcase35 hH hlv hi ht0 ht1 hS next⟩
  | 36, _ => exact ⟨1059, 1092, rfl, rfl, zcase36 hH hlv hi ht0 ht1 hS next⟩
  | 37, _ => exact ⟨1082, 1115, rfl, rfl, zcase37 hH hlv hi ht0 ht1 hS next⟩
  | 38, _ => exact ⟨1105, 1138, rfl, rfl, zcase38 hH hlv hi ht0 ht1 hS next⟩
  | 39, _ => exact ⟨1138, 1171, rfl, rfl, zcase39 hH hlv hi ht0 ht1 hS next⟩
  | 40, _ => exact ⟨1161, 1194, rfl, rfl, zcase40 hH hlv hi ht0 ht1 hS next⟩
  | 41, _ => exact ⟨1220, 1253, rfl, rfl, zcase41 hH hlv hi ht0 ht1 hS next⟩
  | 42, _ => exact ⟨1243, 1276, rfl, rfl, zcase42 hH hlv hi ht0 ht1 hS next⟩
  | 43, _ => exact ⟨1266, 1299, rfl, rfl, zcase43 hH hlv hi ht0 ht1 hS next⟩
  | 44, _ => exact ⟨1289, 1322, rfl, rfl, zcase44 hH hlv hi ht0 ht1 hS next⟩
  | 45, _ => exact ⟨1322, 1355, rfl, rfl, zcase45 hH hlv hi ht0 ht1 hS next⟩
  | 46, _ => exact ⟨1355, 1388, rfl, rfl, zcase46 hH hlv hi ht0 ht1 hS next⟩
  | 47, _ => exact ⟨1378, 1411, rfl, rfl, zcase47 hH hlv hi ht0 ht1 hS next⟩
  | 48, _ => exact ⟨1401, 1434, rfl, rfl, zcase48 hH hlv hi ht0 ht1 hS next⟩
  | j + 49, hj => omega
theorem zloop (hr : meth.sig.returnType = ret) (hlocks : meth.locks = false) (hH : zH p s m meth c b L xs ex D tys asC asR 109 19183 ax ay) : ∀ (n i : Nat) (ls : Array Slot) (t : Int) (H : Heap) (locs : List Loc), L < i + n → i ≤ L → lv_has ls 4 (zlv b ax ay i) → 0 ≤ t → t ≤ 100000 → zSt ex D tys asC asR s t H locs → W p l e room_1 s m #[Value.ref b] below meth c H locs 109 19183 (lw_Z below #[Value.ref b] s) (F0 m 18 ls []) := by
  intro n
  induction n with
  | zero => intro i ls t H locs h1 h2; omega
  | succ n ih =>
    intro i ls t H locs h1 h2 hlv ht0 ht1 hS
    obtain ⟨hx, hb, hX, hbl, hL2, Cx, hK, hax, hay⟩ := hH
    have hSS : va_S (fun q : Nat => s.heap.size ≤ q) s.heap H locs := by
      obtain ⟨wC, wR, -, -, -, -, -, -, -, sS⟩ := hS
      exact sS
    have g0 := lv_at hlv 1 rfl
    have g3 := lv_at hlv 0 rfl
    refine lv_iload_n hx hb zd_18 rfl g3 ?_
    refine lv_aload_n hx hb zd_19 rfl g0 ?_
    refine va_slen (A := fun q : Nat => s.heap.size ≤ q) hx hb hX hbl (Nat.not_le.mpr hbl) hSS zd_20 ?_
    refine lv_bipush (v := 6) hx hb zd_21 (by decide) ?_
    refine lv_isub hx hb zd_23 ?_
    refine lv_icmp_gt (tgt := 1463) hx hb zd_24 (by decide) (fun _ => ?_) (fun z => ?_)
    · refine lv_iconst (v := 1) hx hb zd_1463 (by decide) ?_
      have hlocs : ∀ q ∈ locs, s.heap.size ≤ q.base := hSS.2.2
      refine va_forget hlocs ?_
      refine W.widen (k := 600000) (n := 7302250) (by omega) (by omega) ?_
      exact lw_ret hx hb hr hlocks zd_1464
    · have hi : i + 6 ≤ L := by
        have z : ¬ (Int32.ofNat L - 6) < nI i := z
        rw [Int32.lt_iff_toInt_lt, zq_i6 hL2, nI_toInt (by omega)] at z
        omega
      have next : ∀ (t1 : Int) (H1 : Heap) (locs1 : List Loc), 0 ≤ t1 → t1 ≤ 100000 → zSt ex D tys asC asR s t1 H1 locs1 → W p l e room_1 s m #[Value.ref b] below meth c H1 locs1 109 19183 (lw_Z below #[Value.ref b] s) (F0 m 1457 ls []) := by
        intro t1 H1 locs1 k0 k1 kS
        have hadd : nI i + Int32.ofInt 6 = nI (i + 6) := by
          apply Int32.toInt_inj.mp
          rw [Int32.toInt_add, nI_toInt (by omega), nI_toInt (by omega), show (Int32.ofInt 6).toInt = 6 by decide, Int.bmod_eq_of_le (by omega) (by omega)]
          omega
        refine lv_iinc (nL := 4) (k := 0) (v := nI (i + 6)) (lv' := zlv b ax ay (i + 6)) hx hb zd_1457 hlv rfl hadd (by decide) rfl (fun ls2 hl2 => ?_)
        refine lv_goto (tgt := 18) hx hb zd_1460 (by decide) ?_
        exact ih (i + 6) ls2 t1 H1 locs1 (by omega) (by omega) hl2 k0 k1 kS
      refine lv_aload_n hx hb zd_27 rfl g0 ?_
      refine lv_iload_n hx hb zd_28 rfl g3 ?_
      refine va_sld (A := fun q : Nat => s.heap.size ≤ q) hx hb hX hbl (Nat.not_le.mpr hbl) hSS (i := nI i) (nI_in (by omega) (by omega)) zd_29 ?_
      refine lv_bipush (v := 63) hx hb zd_30 (by decide) ?_
      refine lv_iand hx hb zd_32 ?_
      have hd : decode code 33 = .ok (.tableswitch 1424 0 48 zq_offs, 211) := zd_33
      generalize hv : (xs (nI i).toNatClampNeg &&& 63 : Int32) = v
      by_cases hin : v.toInt < 0 ∨ 48 < v.toInt
      · exact lv_tableOut hx hb hd hin (by decide : ((33 : Nat) : Int) + 1424 = ((1457 : Nat) : Int)) (next t H locs ht0 ht1 hS)
      · obtain ⟨j, hj⟩ := Int.eq_ofNat_of_zero_le (a := v.toInt) (by omega)
        obtain ⟨off, tgt, e1, e2, e3⟩ := zq_sw ⟨hx, hb, hX, hbl, hL2, Cx, hK, hax, hay⟩ hlv hi ht0 ht1 hS next j (by omega)
        exact lv_tableIn hx hb hd (by omega) (by omega) (by rw [show (v.toInt - 0).toNat = j by omega]; exact e1) e2 e3
end ZST
theorem zq_stop {xa : List (Nat × Nat × List zx_V)} {ρ : Nat → Int32} {ex : Nat → Value} {D : va_G} {p : Program} {l : Launch} {e : Env} {R : Room} {s : State} {m : MethodId} {args : Array Value} {below : List Frame} {meth : Method} {c : Code} {A : Nat → Prop} {as : List Nat} {tys : List (ClassId × FieldType)} {ws : va_W} {H : Heap} {locs : List Loc} {ls : Array Slot} {sv : List Value} {Q : State → Prop} {n : Nat} {fr : zx_Fr} {g g2 : zx_G} {w w2 : zx_Wd} {cs sl cs2 sl2 pc : Nat} {lo lo2 : zx_L} {st st2 : List zx_V}
    (h : zx_run xa n fr g w cs sl lo st pc = some [(g2, w2, .inr (cs2, sl2, lo2, st2))]) (C : zy_C xa ρ ex p R s m args meth c A fr) (Dy : zy_D ρ ex D s A fr g w cs sl as tys ws H locs) (hl : zy_l ρ ex as ls (zx_info fr.2.1).1 lo) (hs : zy_s ρ ex as st sv)
    (kk : ∀ (as' : List Nat) (tys' : List (ClassId × FieldType)) (ws' : va_W) (H' : Heap) (locs' : List Loc) (ls' : Array Slot) (sv' : List Value), zy_p as as' → zy_D ρ ex D s A fr g2 w2 cs2 sl2 as' tys' ws' H' locs' → zy_l ρ ex as' ls' (zx_info fr.2.1).1 lo2 → zy_s ρ ex as' st2 sv' → W p l e R s m args below meth c H' locs' cs2 sl2 Q (F0 m fr.2.2.1 ls' sv')) : W p l e R s m args below meth c H locs cs sl Q (F0 m pc ls sv) := by
  refine zs_run zk_tt zk_aa n _ _ _ _ _ _ _ _ _ h C Dy hl hs ?_
  intro o ho as' tys' ws' H' locs' hp
  have ho : o = (g2, w2, .inr (cs2, sl2, lo2, st2)) := by
    rcases List.mem_cons.mp ho with z | z
    · exact z
    · cases z
  subst ho
  refine ⟨fun rv hrv => (by cases hrv), fun cs' sl' lo' st' hq ls' sv' Dy hl' hs' => ?_⟩
  cases hq
  exact kk as' tys' ws' H' locs' ls' sv' hp Dy hl' hs'
theorem zq_nil {ρ : Nat → Int32} {ex : Nat → Value} {as : List Nat} {sv : List Value} (h : zy_s ρ ex as [] sv) : sv = [] := by
  cases sv with
  | nil => rfl
  | cons a r => cases h
theorem zq_g0 (ρ : Nat → Int32) : zy_g ρ zx_g0 := by
  intro i q hq
  have hf : ∀ j, zx_full.1 ≤ (ρ j).toInt ∧ (ρ j).toInt ≤ zx_full.2 := fun j => ⟨Int32.le_toInt _, by have := Int32.toInt_lt (ρ j); show _ ≤ (2147483647 : Int); omega⟩
  match i, hq with
  | 0, hq => cases hq; exact hf 0
  | 1, hq => cases hq; exact hf 1
  | 2, hq => cases hq; exact hf 2
  | 3, hq => cases hq; exact hf 3
  | 4, hq => cases hq; exact hf 4
  | 5, hq => cases hq; exact hf 5
theorem zq_c (p : Program) (s : State) (m : MethodId) (meth : Method) (c : Code) (b bp : Nat) (xa : List (Nat × Nat × List zx_V)) (ρ : Nat → Int32) (ex : Nat → Value) (hx : p.tables.exec = Jvm.exec) (hb : c.code = code) (hml : c.maxLocals = 4) (hown : s.vm.findClass R_law = some m.cls) (htb : ∀ w ∈ zx_tb, w.before #[Value.ref b] s = true) (hX : zy_X xa ρ ex (fun q => s.heap.size ≤ q) s s.heap) : zy_C xa ρ ex p room_1 s m #[Value.ref b] meth c (fun q => s.heap.size ≤ q) (30, 0, bp, 200, 20000) :=
  ⟨hx, hb, hml, hown, htb, fun _ h => h, hX, Nat.le_of_ble_eq_true rfl, Nat.le_of_ble_eq_true rfl, Nat.le_of_ble_eq_true rfl, Nat.le_of_ble_eq_true rfl, fun z => absurd (show (zx_name 0).name = "<init>" from z) (by decide +kernel)⟩
theorem whole_start {p : Program} {e : Env} {s : State} {m : MethodId} {below : List Frame} {meth : Method} {c : Code} (l : Launch) (hflags : l.flags = flags0) {b L : Nat} {xs : Nat → Int32} (hL : L ≤ 3072) (C0 : lw_At p s m meth c b L xs) : W p l e room_1 s m #[Value.ref b] below meth c s.heap [] 0 0 (lw_Z below #[Value.ref b] s) (entryFrame m ([Value.ref b] : List Value).toArray 4) := by
  obtain ⟨ex, hex1, hX0⟩ := zq_X C0
  obtain ⟨hx, hb, hr, hml, hown, hts, hX, hbl, hlocks, hgv⟩ := C0
  have htb : ∀ w ∈ zx_tb, w.before #[Value.ref b] s = true := fun w hw => hts w (List.mem_filter.mp hw).1
  have hch : ∀ k : Nat, ∃ x : ClassId × (Nat → Nat), ∀ q : vw_C, zx_cl[k]? = some q → u_Kn s q.1 q.2.1 q.2.2 x.1 x.2 := by
    intro k
    cases hq : zx_cl[k]? with
    | none => exact ⟨(m.cls, fun _ => 0), fun q h => (by cases h)⟩
    | some q =>
      obtain ⟨n, hn⟩ := zq_ins k q hq
      obtain ⟨cC, iS, h⟩ := u_known (C := q.1) (T := q.2.1) (N := q.2.2) htb (zk_cls k q.1 q.2.1 q.2.2 hq q.1 q.2.1 q.2.2 hq).1 (htb _ hn)
      exact ⟨(cC, iS), fun q' h' => by cases h'; exact h⟩
  obtain ⟨f, hf⟩ := Classical.axiomOfChoice hch
  have hK : va_K (fun k => (f k).1, fun k => (f k).2) zx_cl [] s := ⟨fun c q hq => hf c q hq, fun k q h => by simp at h⟩
  have hP : va_P (fun k => (f k).1, fun k => (f k).2) zx_cl [] s.heap := fun k q h => by simp at h
  have hD : va_D (fun q : Nat => s.heap.size ≤ q) [] := ⟨fun i j p q h => by simp at h, fun k q h => by simp at h⟩
  have hw : zy_w xs ex [] [] [] [] := ⟨rfl, rfl, fun k e h => by simp at h⟩
  have hl := lv_entry ([Value.ref b]) (n := 4) (Nat.le_of_ble_eq_true rfl)
  rw [lg_entry_eq]
  refine zq_stop (zx_pz_ok zv_i1) (zq_c p s m meth c b 8 zx_xa0 xs ex hx hb hml hown htb (hX0 xs)) (D := (fun k => (f k).1, fun k => (f k).2)) (as := []) (tys := []) (ws := []) ⟨hK, hP, hD, va_S.rf, hw, zq_g0 xs, Nat.zero_le _, Nat.zero_le _⟩ ⟨hl.1, hl.2.1, fun q hq => ?_⟩ (sv := []) trivial ?_
  · rcases List.mem_cons.mp hq with rfl | hq
    · exact ⟨.ref b, hl.2.2 (0, .ref b) List.mem_cons_self, hex1.symm⟩
    · cases hq
  intro as1 tys1 ws1 H1 locs1 ls1 sv1 hp1 Dy1 hl1 hs1
  rw [zq_nil hs1]
  refine zq_stop (zx_pz_ok zv_i2) (zq_c p s m meth c b 18 zx_xa0 xs ex hx hb hml hown htb (hX0 xs)) Dy1 hl1 (sv := []) trivial ?_
  intro as' tys' ws' H' locs' ls' sv' hp Dy hl' hs'
  rw [zq_nil hs']
  have hex := (hX0 xs).1
  have hw0 := Dy.2.2.2.2.1
  have hla : as'.length = 109 := by rw [hw0.1]; exact hb_len
  have ha0 : as'[0]? = some as'[0] := List.getElem?_eq_getElem (by omega)
  have ha73 : as'[73]? = some as'[73] := List.getElem?_eq_getElem (by omega)
  have hlv : lv_has ls' 4 (zlv b as'[0] as'[73] 0) := by
    refine ⟨hl'.1, hl'.2.1, ?_⟩
    have v3 := hl'.2.2 (3, .inl 0) List.mem_cons_self
    have v2 := hl'.2.2 (2, .inr (.inl (some 73))) (List.mem_cons_of_mem _ List.mem_cons_self)
    have v1 := hl'.2.2 (1, .inr (.inl (some 0))) (List.mem_cons_of_mem _ (List.mem_cons_of_mem _ List.mem_cons_self))
    have v0 := hl'.2.2 (0, .inr (.inr (.inr (.inr (.inl 1))))) (List.mem_cons_of_mem _ (List.mem_cons_of_mem _ (List.mem_cons_of_mem _ List.mem_cons_self)))
    refine fa_cons ?_ (fa_cons ?_ (fa_cons ?_ (fa_cons ?_ fa_nil)))
    · obtain ⟨v, e1, e2⟩ := v3
      have e2 : v = .int (Int32.ofNat 0) := e2
      rw [e2] at e1; exact e1
    · obtain ⟨v, e1, e2⟩ := v0
      have e2 : v = ex 1 := e2
      rw [e2, hex1] at e1; exact e1
    · obtain ⟨v, e1, q, e2, e3⟩ := v1
      rw [ha0] at e2; cases e2
      rw [e3] at e1; exact e1
    · obtain ⟨v, e1, q, e2, e3⟩ := v2
      rw [ha73] at e2; cases e2
      rw [e3] at e1; exact e1
  have hH : zH p s m meth c b L xs ex (fun k => (f k).1, fun k => (f k).2) tys' ((as'.drop 0).take 73) ((as'.drop 73).take 36) 109 19183 as'[0] as'[73] := by
    refine ⟨hx, hb, hX, hbl, hL, ⟨hx, hb, hml, hown, htb, fun _ h => h, hX0 _, Nat.le_of_ble_eq_true rfl, Nat.le_of_ble_eq_true rfl, Nat.le_of_ble_eq_true rfl, Nat.le_of_ble_eq_true rfl, fun z => absurd (show (zx_name 0).name = "<init>" from z) (by decide +kernel)⟩, Dy.1, ?_, ?_⟩
    · rw [hb_at (by omega)]; exact ha0
    · rw [hb_at (by omega)]; exact ha73
  refine zloop hr hlocks hH (L + 1) 0 ls' 0 H' locs' (by omega) (by omega) hlv (by omega) (by omega) ?_
  exact ⟨_, _, hb_KC hex hw0, hb_KR hex hw0, hb_P Dy.2.1, hb_P Dy.2.1, hb_D Dy.2.2.1, hb_D Dy.2.2.1, hb_dis Dy.2.2.1, Dy.2.2.2.1⟩
set_option maxHeartbeats 4000000 in
theorem lw_walk (l : Launch) (hflags : l.flags = flags0) (b : Addr) (xs : List Int32) : MetFree l x (headSpec (Jvm.Cond.code x code maxLocals ret :: tables_1) room_1) (lw_P b xs) (fun _ _ _ _ _ => True) lw_Q := by
  refine MetFree.of_bodyS (code := code) (maxLocals := maxLocals) (ret := ret) (by decide) ?_ ?_
  · intro args s m h hn
    obtain ⟨meth, c, h1, h2, h3, h4, h5, h6, -, -⟩ := Cond.code_spec hn (atoms_spec (ws := Jvm.Cond.code x code maxLocals ret :: tables_1) h _ List.mem_cons_self)
    exact ⟨meth, c, h1, h2, h3, h4, h5, h6⟩
  · intro p e s m args below meth c s₁ B hml0 hP _
    obtain ⟨rfl, hx, hbd, hgv⟩ := hP
    obtain ⟨scr, harrAt, hlist, hof, hsmall⟩ := hx
    obtain ⟨hcb, hkn, -, -⟩ := State.arrayAt?_spec harrAt
    have hown : s.vm.findClass R_law = some m.cls := findClass_of_methodNamed B.named
    have hts0 : ∀ c ∈ (Jvm.Cond.code x code maxLocals ret :: tables_1), c.before #[Value.ref b] s = true := atoms_spec (ws := Jvm.Cond.code x code maxLocals ret :: tables_1) B.pre
    have hts : ∀ w ∈ lw_tbl, w.before #[Value.ref b] s = true := k2_hts_sels lw_privs (fun w hw => hts0 w (List.mem_cons_of_mem _ hw)) lw_privs_ok
    have hml : c.maxLocals = 4 := B.maxLocals_eq (hts0 _ List.mem_cons_self)
    have X₀ : Stand p l e room_1 s m #[Value.ref b] below meth c s₁ [] 0 0 := Stand.of_body B
    have hh0 : s₁.heap = s.heap := by rw [B.state]; rfl
    have hsz : scr.slots.size = xs.length := by rw [← Array.length_toList, hlist, List.length_map]
    have hval : ∀ j : Nat, j < xs.length → scr.slots[j]? = some (.int (xs.getD j 0)) := fun j hj => by
      rw [← Array.getElem?_toList, hlist]
      simp [hj]
    have hbl : b < s.heap.size := (Array.getElem?_eq_some_iff.mp hcb).1
    have hX : va_X b xs.length (fun j => xs.getD j 0) s s.heap := ⟨scr, hcb, hof, hkn, hsz, hval⟩
    have K : W p l e room_1 s m #[Value.ref b] below meth c s₁.heap [] 0 0 (lw_Z below #[Value.ref b] s) (entryFrame m ([Value.ref b] : List Value).toArray 4) := by
      rw [hh0]
      exact whole_start l hflags hbd ⟨B.exec, B.bytes, B.returns, hml, hown, hts, hX, hbl, B.notSynchronized, hgv⟩
    obtain ⟨t, a1, o, b1, b2, b3⟩ := K s₁ rfl X₀
    exact ⟨t, o, a1, b1, b2, b3⟩
theorem lw_pre_spec {args : Array Value} {s : State} (h : (Jvm.Cond.and given_1 narrow_1).before args s = true) (hr : rest_1_c.before args s = true) : ∃ (b : Addr) (xs : List Int32), lw_P b xs args s := by
  have hs := flat_of_before _ h
  have hq := flat_of_before _ hr
  have hc : (Cond.count 1).before args s = true := hs _ (by decide +kernel)
  have harr : (Cond.arrayOf (.arg 0) .int).before args s = true := hs _ (by decide +kernel)
  have hle : (Cond.le (.length (.arg 0)) (.int 3072)).before args s = true := hs _ (by decide +kernel)
  have hlen : (Cond.isInt (.length (.arg 0))).before args s = true := hq _ (by decide +kernel)
  have hall : (Cond.all (.arg 0) (.isInt (.elem (.arg 0) (.index 0)))).before args s = true := hq _ (by decide +kernel)
  obtain ⟨b, xs, hb, hx⟩ := State.ints_of_pre rfl harr hlen hall
  have hsm : xs.length < 2 ^ 31 := hx.choose_spec.2.2.2
  have hev : (Term.length (.arg 0)).eval args s none [] s = some (.int xs.length.toInt32) := hx.length_eval hb
  have hv := Cond.le_ints hev (show (Term.int 3072).eval args s none [] s = some (.int 3072) from rfl)
  have hd : xs.length.toInt32 ≤ 3072 := by
    simpa [Cond.before, Cond.holds, hv] using hle
  have hN : xs.length ≤ 3072 := (Int32.ofNat_le_ofNat hsm (by decide)).mp (show Int32.ofNat xs.length ≤ Int32.ofNat 3072 from hd)
  exact ⟨b, xs, Cond.one_arg hc (show args[0]? = some (.ref b) from hb), hx, hN, h⟩
theorem lw_comes (l : Launch) (hflags : l.flags = flags0) : Comes l x (Jvm.Cond.code x code maxLocals ret :: tables_1) room_1 (fun tb e args s => Calls_1 tb e args s ∧ rest_1 tb e args s ∧ Pre_1 tb e args s)
    (fun _ _ args s o t => lw_Q args s o t) := by
  intro p e ha hc hk s m args below hf hfit hheap happ hpre
  obtain ⟨b, xs, hP⟩ := lw_pre_spec hpre.2.2 hpre.2.1
  obtain ⟨k, o, h1, h2, h3, hQ⟩ := lw_walk l hflags b xs p e ha hc hk s m args below hf ((Spec.applies_iff_loose hf).mp happ).1 hP trivial
  exact ⟨k, o, h1, h2, h3, hQ⟩
theorem lw_frame {s t : State} {o : Outcome} {args : Array Value} (h : Framed s o t [] 600000 7302250) :
    Framed s o t (fieldLocs frame_1_writes args s ++ arrayLocs frame_1_arrays args s ++ staticLocs frame_1_statics s) 600000 7302250 := h
theorem lw_limb (L : Cond) (hL : ∀ (args : Array Value) (s t : State), L.after args s (.returned (some (.int 1))) t = true) :
    ArmFor flags0 classFile x code maxLocals ret World_1 tables_1 room_1 Calls_1 rest_1 Pre_1
      (fun tb e a s o t => postC L tb e a s o t ∧ Framed s o t (fieldLocs frame_1_writes a s ++ arrayLocs frame_1_arrays a s ++ staticLocs frame_1_statics s) 600000 7302250) := by
  intro l hflags _ _ p e ha hc hk s m args below hf hfit hheap happ hpre
  obtain ⟨k, o, h1, h2, h3, rfl, hF⟩ := lw_comes l hflags p e ha hc hk s m args below hf hfit hheap happ hpre
  exact ⟨k, _, h1, h2, h3, hL args s _, lw_frame hF⟩
theorem i_vc : Claimed_1_1 ∧ Claimed_1_2 := ⟨lw_limb limb_1_1 (fun args s t => by simp [limb_1_1, Cond.after, Cond.holds, Cond.value]), lw_limb limb_1_2 (fun args s t => Cond.after_iff.mpr (by
  first | (rw [show limb_1_2 = Cond.eq .result (.int 1) from rfl, Cond.eq_ints (x := 1) (y := 1) rfl rfl]; simp; done) | (simp [limb_1_2, Cond.value, Term.eval]; done)))⟩
