/-! THE LAW -/
theorem zd_18 : decode code 18 = .ok (.iload_n 3, 1) := by decide +kernel
theorem zd_19 : decode code 19 = .ok (.aload_n 0, 1) := by decide +kernel
theorem zd_20 : decode code 20 = .ok (.arraylength, 1) := by decide +kernel
theorem zd_21 : decode code 21 = .ok (.bipush 6, 2) := by decide +kernel
theorem zd_23 : decode code 23 = .ok (.isub, 1) := by decide +kernel
theorem zd_24 : decode code 24 = .ok (.if_icmp .gt 1439, 3) := by decide +kernel
theorem zd_33 : decode code 33 = .ok (.tableswitch 1424 0 48 #[211, 274, 297, 310, 333, 366, 399, 432, 445, 478, 501, 534, 567, 600, 613, 626, 659, 682, 705, 718, 741, 764, 787, 800, 823, 856, 889, 922, 955, 968, 981, 994, 1007, 1020, 1033, 1046, 1059, 1082, 1105, 1138, 1161, 1220, 1243, 1266, 1289, 1322, 1355, 1378, 1401], 211) := by decide +kernel
theorem zd_1463 : decode code 1463 = .ok (.iconst 1, 1) := by decide +kernel
theorem zd_1464 : decode code 1464 = .ok (.ireturn, 1) := by decide +kernel
set_option maxRecDepth 100000 in
theorem zv_head : zx_pz (zx_run zx_xa 1000 (30, 0, 33, 200, 20000) zx_g0 zx_w0 109 19183 zx_l0 [] 18) zx_g0 zx_w0 109 19183 zx_l0 [zx_top] = true := by decide +kernel
theorem zq_c (p : Program) (s : State) (m : MethodId) (meth : Method) (c : Code) (b bp : Nat) (xa : List (Nat × Nat × List zx_V)) (ρ : Nat → Int32) (ex : Nat → Value) (hx : p.tables.exec = Jvm.exec) (hb : c.code = code) (hml : c.maxLocals = 4) (hown : s.vm.findClass R_law = some m.cls) (htb : ∀ w ∈ zx_tb, w.before #[Value.ref b] s = true) (hX : zy_X xa ρ ex (fun q => s.heap.size ≤ q) s s.heap) : zy_C xa ρ ex p room_1 s m #[Value.ref b] meth c (fun q => s.heap.size ≤ q) (30, 0, bp, 200, 20000) :=
  ⟨hx, hb, hml, hown, htb, fun _ h => h, hX, Nat.le_of_ble_eq_true rfl, Nat.le_of_ble_eq_true rfl, Nat.le_of_ble_eq_true rfl, Nat.le_of_ble_eq_true rfl, fun z => absurd (show (zx_name 0).name = "<init>" from z) (by decide +kernel)⟩
/-- from a place of the law, with the fresh objects, it comes to its end with true -/
def zq_G (pc : Nat) : Prop := ∀ {p : Program} {l : Launch} {e : Env} {s : State} {m : MethodId} {below : List Frame} {meth : Method} {c : Code} {b : Nat} {ρ : Nat → Int32} {ex : Nat → Value} {D : va_G} {as : List Nat} {tys : List (ClassId × FieldType)} {ws : va_W} {H : Heap} {locs : List Loc} {ls : Array Slot},
  zy_C zx_xa ρ ex p room_1 s m #[Value.ref b] meth c (fun q => s.heap.size ≤ q) (30, 0, 1000000, 200, 20000) → meth.sig.returnType = ret → meth.locks = false → zy_D ρ ex D s (fun q => s.heap.size ≤ q) (30, 0, 1000000, 200, 20000) zx_g0 zx_w0 109 19183 as tys ws H locs → zy_l ρ ex as ls 4 zx_l0 → W p l e room_1 s m #[Value.ref b] below meth c H locs 109 19183 (lw_Z below #[Value.ref b] s) (F0 m pc ls [])
theorem zq_end {xa : List (Nat × Nat × List zx_V)} {p : Program} {l : Launch} {e : Env} {s : State} {m : MethodId} {below : List Frame} {meth : Method} {c : Code} {b : Nat} {ρ : Nat → Int32} {ex : Nat → Value} {D : va_G} {as : List Nat} {tys : List (ClassId × FieldType)} {ws : va_W} {H : Heap} {locs : List Loc} {ls : Array Slot} {sv : List Value} {g : zx_G} {w : zx_Wd} {cs sl n pc : Nat} {lo : zx_L} {st : List zx_V}
    (hf : zx_fin (zx_run xa n (30, 0, 1000000, 200, 20000) g w cs sl lo st pc) = true) (C : zy_C xa ρ ex p room_1 s m #[Value.ref b] meth c (fun q => s.heap.size ≤ q) (30, 0, 1000000, 200, 20000)) (hr : meth.sig.returnType = ret) (hlocks : meth.locks = false) (Dy : zy_D ρ ex D s (fun q => s.heap.size ≤ q) (30, 0, 1000000, 200, 20000) g w cs sl as tys ws H locs) (hl : zy_l ρ ex as ls 4 lo) (hs : zy_s ρ ex as st sv) : W p l e room_1 s m #[Value.ref b] below meth c H locs cs sl (lw_Z below #[Value.ref b] s) (F0 m pc ls sv) := by
  obtain ⟨outs, h1, h2⟩ := zx_fin_ok hf
  refine zs_run zk_tt zk_aa n _ _ _ _ _ _ _ _ _ h1 C Dy hl hs ?_
  intro o ho as' tys' ws' H' locs' hp
  have ho := h2 o ho
  refine ⟨fun rv hrv cs' sl' pc' ls' st' Dy' hrt => ?_, fun cs' sl' lo' st' hrv => ?_⟩
  · rw [ho] at hrv
    cases hrv
    obtain ⟨v, rfl, hv, hd⟩ := hrt
    have hv : v = .int 1 := hv
    subst hv
    have hd : decode code pc' = .ok (.ireturn, 1) := by
      rcases hd with ⟨hd, -⟩ | ⟨-, hd, -⟩
      · exact hd
      · exact absurd hd (by decide +kernel)
    have hlocs : ∀ q ∈ locs', s.heap.size ≤ q.base := Dy'.2.2.2.1.2.2
    refine va_forget hlocs ?_
    refine W.widen (k := 600000) (n := 7302250) (Nat.le_trans Dy'.2.2.2.2.2.2.1 (Nat.le_of_ble_eq_true rfl)) (Nat.le_trans Dy'.2.2.2.2.2.2.2 (Nat.le_of_ble_eq_true rfl)) ?_
    exact lw_ret C.1 C.2.1 hr hlocks hd
  · rw [ho] at hrv
    cases hrv
theorem zq_one {pc : Nat} (lo hi : Int) (h : zx_vs pc lo hi = true) {p : Program} {l : Launch} {e : Env} {s : State} {m : MethodId} {below : List Frame} {meth : Method} {c : Code} {b : Nat} {ρ : Nat → Int32} {ex : Nat → Value} {D : va_G} {as : List Nat} {tys : List (ClassId × FieldType)} {ws : va_W} {H : Heap} {locs : List Loc} {ls : Array Slot}
    (C : zy_C zx_xa ρ ex p room_1 s m #[Value.ref b] meth c (fun q => s.heap.size ≤ q) (30, 0, 1000000, 200, 20000)) (hr : meth.sig.returnType = ret) (hlocks : meth.locks = false) (Dy : zy_D ρ ex D s (fun q => s.heap.size ≤ q) (30, 0, 1000000, 200, 20000) zx_g0 zx_w0 109 19183 as tys ws H locs) (hl : zy_l ρ ex as ls 4 zx_l0) (h1 : lo ≤ (ρ 1).toInt) (h2 : (ρ 1).toInt ≤ hi) : W p l e room_1 s m #[Value.ref b] below meth c H locs 109 19183 (lw_Z below #[Value.ref b] s) (F0 m pc ls []) := by
  have hg : zy_g ρ (zx_gr lo hi) := by
    intro i q hq
    have hf : ∀ j, zx_full.1 ≤ (ρ j).toInt ∧ (ρ j).toInt ≤ zx_full.2 := fun j => ⟨Int32.le_toInt _, by have := Int32.toInt_lt (ρ j); show _ ≤ (2147483647 : Int); omega⟩
    match i, hq with
    | 0, hq => cases hq; exact hf 0
    | 1, hq => cases hq; exact ⟨h1, h2⟩
    | 2, hq => cases hq; exact hf 2
    | 3, hq => cases hq; exact hf 3
    | 4, hq => cases hq; exact hf 4
    | 5, hq => cases hq; exact hf 5
  exact zq_end h C hr hlocks (Dy.g hg) hl trivial
theorem zq_all {pc : Nat} (h : zx_vs pc (-2147483648) 2147483647 = true) : zq_G pc := by
  intro p l e s m below meth c b ρ ex D as tys ws H locs ls C hr hlocks Dy hl
  exact zq_one _ _ h C hr hlocks Dy hl (Int32.le_toInt _) (by have := Int32.toInt_lt (ρ 1); omega)
theorem zq_pts {pc : Nat} (n : Nat) (h1 : zx_vs pc (-2147483648) (-1) = true) (h2 : zx_vs pc n 2147483647 = true) (h3 : ∀ i : Nat, i < n → zx_vs pc i i = true) : zq_G pc := by
  intro p l e s m below meth c b ρ ex D as tys ws H locs ls C hr hlocks Dy hl
  have b1 := Int32.le_toInt (ρ 1)
  have b2 := Int32.toInt_lt (ρ 1)
  rcases Int.lt_or_le (ρ 1).toInt 0 with z | z
  · exact zq_one _ _ h1 C hr hlocks Dy hl b1 (by omega)
  · rcases Int.lt_or_le (ρ 1).toInt n with y | y
    · obtain ⟨i, hi⟩ := Int.eq_ofNat_of_zero_le z
      rw [hi] at y
      exact zq_one _ _ (h3 i (by omega)) C hr hlocks Dy hl (by omega) (by omega)
    · exact zq_one _ _ h2 C hr hlocks Dy hl y (by omega)
theorem zq_0 : zq_G 244 := zq_all zv_0_a
theorem zq_1 : zq_G 307 := zq_all zv_1_a
theorem zq_2 : zq_G 330 := zq_all zv_2_a
theorem zq_3 : zq_G 343 := zq_pts 2 zv_3_m zv_3_p (fun i hi => match i, hi with
  | 0, _ => zv_3_0
  | 1, _ => zv_3_1
  | i + 2, hi => absurd hi (by omega))
theorem zq_4 : zq_G 366 := zq_all zv_4_a
theorem zq_5 : zq_G 399 := zq_all zv_5_a
theorem zq_6 : zq_G 432 := zq_all zv_6_a
theorem zq_7 : zq_G 465 := zq_all zv_7_a
theorem zq_8 : zq_G 478 := zq_all zv_8_a
theorem zq_9 : zq_G 511 := zq_all zv_9_a
theorem zq_10 : zq_G 534 := zq_all zv_10_a
theorem zq_11 : zq_G 567 := zq_all zv_11_a
theorem zq_12 : zq_G 600 := zq_all zv_12_a
theorem zq_13 : zq_G 633 := zq_all zv_13_a
theorem zq_14 : zq_G 646 := zq_all zv_14_a
theorem zq_15 : zq_G 659 := zq_all zv_15_a
theorem zq_16 : zq_G 692 := zq_pts 61 zv_16_m zv_16_p (fun i hi => match i, hi with
  | 0, _ => zv_16_0
  | 1, _ => zv_16_1
  | 2, _ => zv_16_2
  | 3, _ => zv_16_3
  | 4, _ => zv_16_4
  | 5, _ => zv_16_5
  | 6, _ => zv_16_6
  | 7, _ => zv_16_7
  | 8, _ => zv_16_8
  | 9, _ => zv_16_9
  | 10, _ => zv_16_10
  | 11, _ => zv_16_11
  | 12, _ => zv_16_12
  | 13, _ => zv_16_13
  | 14, _ => zv_16_14
  | 15, _ => zv_16_15
  | 16, _ => zv_16_16
  | 17, _ => zv_16_17
  | 18, _ => zv_16_18
  | 19, _ => zv_16_19
  | 20, _ => zv_16_20
  | 21, _ => zv_16_21
  | 22, _ => zv_16_22
  | 23, _ => zv_16_23
  | 24, _ => zv_16_24
  | 25, _ => zv_16_25
  | 26, _ => zv_16_26
  | 27, _ => zv_16_27
  | 28, _ => zv_16_28
  | 29, _ => zv_16_29
  | 30, _ => zv_16_30
  | 31, _ => zv_16_31
  | 32, _ => zv_16_32
  | 33, _ => zv_16_33
  | 34, _ => zv_16_34
  | 35, _ => zv_16_35
  | 36, _ => zv_16_36
  | 37, _ => zv_16_37
  | 38, _ => zv_16_38
  | 39, _ => zv_16_39
  | 40, _ => zv_16_40
  | 41, _ => zv_16_41
  | 42, _ => zv_16_42
  | 43, _ => zv_16_43
  | 44, _ => zv_16_44
  | 45, _ => zv_16_45
  | 46, _ => zv_16_46
  | 47, _ => zv_16_47
  | 48, _ => zv_16_48
  | 49, _ => zv_16_49
  | 50, _ => zv_16_50
  | 51, _ => zv_16_51
  | 52, _ => zv_16_52
  | 53, _ => zv_16_53
  | 54, _ => zv_16_54
  | 55, _ => zv_16_55
  | 56, _ => zv_16_56
  | 57, _ => zv_16_57
  | 58, _ => zv_16_58
  | 59, _ => zv_16_59
  | 60, _ => zv_16_60
  | i + 61, hi => absurd hi (by omega))
theorem zq_17 : zq_G 715 := zq_all zv_17_a
theorem zq_18 : zq_G 738 := zq_all zv_18_a
theorem zq_19 : zq_G 751 := zq_all zv_19_a
theorem zq_20 : zq_G 774 := zq_all zv_20_a
theorem zq_21 : zq_G 797 := zq_all zv_21_a
theorem zq_22 : zq_G 820 := zq_all zv_22_a
theorem zq_23 : zq_G 833 := zq_all zv_23_a
theorem zq_24 : zq_G 856 := zq_all zv_24_a
theorem zq_25 : zq_G 889 := zq_all zv_25_a
theorem zq_26 : zq_G 922 := zq_all zv_26_a
theorem zq_27 : zq_G 955 := zq_all zv_27_a
theorem zq_28 : zq_G 988 := zq_all zv_28_a
theorem zq_29 : zq_G 1001 := zq_all zv_29_a
theorem zq_30 : zq_G 1014 := zq_all zv_30_a
theorem zq_31 : zq_G 1027 := zq_all zv_31_a
theorem zq_32 : zq_G 1040 := zq_all zv_32_a
theorem zq_33 : zq_G 1053 := zq_all zv_33_a
theorem zq_34 : zq_G 1066 := zq_all zv_34_a
theorem zq_35 : zq_G 1079 := zq_all zv_35_a
theorem zq_36 : zq_G 1092 := zq_all zv_36_a
-- case 37 (worst) stands in a part of its own
theorem zq_38 : zq_G 1138 := zq_all zv_38_a
theorem zq_39 : zq_G 1171 := zq_all zv_39_a
theorem zq_40 : zq_G 1194 := zq_all zv_40_a
theorem zq_41 : zq_G 1253 := zq_all zv_41_a
theorem zq_42 : zq_G 1276 := zq_all zv_42_a
theorem zq_43 : zq_G 1299 := zq_all zv_43_a
theorem zq_44 : zq_G 1322 := zq_all zv_44_a
theorem zq_45 : zq_G 1355 := zq_all zv_45_a
theorem zq_46 : zq_G 1388 := zq_pts 3 zv_46_m zv_46_p (fun i hi => match i, hi with
  | 0, _ => zv_46_0
  | 1, _ => zv_46_1
  | 2, _ => zv_46_2
  | i + 3, hi => absurd hi (by omega))
theorem zq_47 : zq_G 1411 := zq_pts 3 zv_47_m zv_47_p (fun i hi => match i, hi with
  | 0, _ => zv_47_0
  | 1, _ => zv_47_1
  | 2, _ => zv_47_2
  | i + 3, hi => absurd hi (by omega))
theorem zq_48 : zq_G 1434 := zq_pts 14 zv_48_m zv_48_p (fun i hi => match i, hi with
  | 0, _ => zv_48_0
  | 1, _ => zv_48_1
  | 2, _ => zv_48_2
  | 3, _ => zv_48_3
  | 4, _ => zv_48_4
  | 5, _ => zv_48_5
  | 6, _ => zv_48_6
  | 7, _ => zv_48_7
  | 8, _ => zv_48_8
  | 9, _ => zv_48_9
  | 10, _ => zv_48_10
  | 11, _ => zv_48_11
  | 12, _ => zv_48_12
  | 13, _ => zv_48_13
  | i + 14, hi => absurd hi (by omega))
theorem zq_49 : zq_G 1457 := zq_all zv_49_a
