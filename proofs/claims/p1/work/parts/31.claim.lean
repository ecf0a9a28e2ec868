/-! THE CLAIM -/
set_option maxHeartbeats 4000000 in
set_option maxRecDepth 100000 in
theorem whole_start {p : Program} {e : Env} {s : State} {m : MethodId} {below : List Frame} {meth : Method} {c : Code} (l : Launch) (hflags : l.flags = flags0) {b L : Nat} {xs : Nat → Int32} (hL : L ≤ 6) (C0 : lw_At p s m meth c b L xs) : W p l e room_1 s m #[Value.ref b] below meth c s.heap [] 0 0 (lw_Z below #[Value.ref b] s) (entryFrame m ([Value.ref b] : List Value).toArray 4) := by
  obtain ⟨ex, hex1, hX0, hX6⟩ := zq_X C0
  obtain ⟨hx, hb, hr, hml, hown, hts, hX, hbl, hlocks, hgv⟩ := id C0
  have htb : ∀ w ∈ zx_tb, w.before #[Value.ref b] s = true := fun w hw => hts w (List.mem_filter.mp hw).1
  have hch : ∀ k : Nat, ∃ x : ClassId × (Nat → Nat), ∀ q : vw_C, zx_cl[k]? = some q → u_Kn s q.1 q.2.1 q.2.2 x.1 x.2 := by
    intro k
    cases hq : zx_cl[k]? with
    | none => exact ⟨(m.cls, fun _ => 0), fun q h => (by cases h)⟩
    | some q =>
      obtain ⟨n, hn⟩ := zq_ins k q hq
      obtain ⟨cC, iS, h⟩ := u_known (C := q.1) (T := q.2.1) (N := q.2.2) htb (zk_cls k q.1 q.2.1 q.2.2 hq q.1 q.2.1 q.2.2 hq).1 (htb _ hn)
      exact ⟨(cC, iS), fun q' h' => by cases h'; exact h⟩
  obtain ⟨f, hf⟩ := Classical.axiomOfChoice hch
  have hK : va_K (fun k => (f k).1, fun k => (f k).2) zx_cl [] s := ⟨fun c q hq => hf c q hq, fun k q h => by simp at h⟩
  have hP : va_P (fun k => (f k).1, fun k => (f k).2) zx_cl [] s.heap := fun k q h => by simp at h
  have hD : va_D (fun q : Nat => s.heap.size ≤ q) [] := ⟨fun i j p q h => by simp at h, fun k q h => by simp at h⟩
  have hw : zy_w xs ex [] [] [] [] := ⟨rfl, rfl, fun k e h => by simp at h⟩
  have hg : zy_g xs zx_g0 := by
    intro i q hq
    have hf : ∀ j, zx_full.1 ≤ (xs j).toInt ∧ (xs j).toInt ≤ zx_full.2 := fun j => ⟨Int32.le_toInt _, by have := Int32.toInt_lt (xs j); show _ ≤ (2147483647 : Int); omega⟩
    match i, hq with
    | 0, hq => cases hq; exact hf 0
    | 1, hq => cases hq; exact hf 1
    | 2, hq => cases hq; exact hf 2
    | 3, hq => cases hq; exact hf 3
    | 4, hq => cases hq; exact hf 4
    | 5, hq => cases hq; exact hf 5
  have hl := lv_entry ([Value.ref b]) (n := 4) (Nat.le_of_ble_eq_true rfl)
  rw [lg_entry_eq]
  refine zs_run zk_tt zk_aa 100000 _ _ _ _ _ _ _ _ _ (zx_pz_ok zv_init) (zq_c p s m meth c b 18 zx_xa0 xs ex hx hb hml hown htb hX0) (D := (fun k => (f k).1, fun k => (f k).2)) (as := []) (tys := []) (ws := []) ⟨hK, hP, hD, va_S.rf, hw, hg, Nat.zero_le _, Nat.zero_le _⟩ ⟨hl.1, hl.2.1, fun q hq => ?_⟩ (sv := []) trivial ?_
  · rcases List.mem_cons.mp hq with rfl | hq
    · exact ⟨.ref b, hl.2.2 (0, .ref b) List.mem_cons_self, hex1.symm⟩
    · cases hq
  intro o ho as' tys' ws' H' locs' hp
  rcases List.mem_cons.mp ho with rfl | ho
  rotate_left
  · cases ho
  refine ⟨fun rv hrv => (by cases hrv), fun cs' sl' lo' st' hq ls' sv' Dy hl' hs' => ?_⟩
  cases hq
  match sv', hs' with
  | [], _ =>
    rcases Nat.lt_or_ge L 6 with h6 | h6
    · obtain ⟨v3, g3, e3⟩ := hl'.2.2 (3, .inl 0) List.mem_cons_self
      obtain ⟨v0, g0, e0⟩ := hl'.2.2 (0, .inr (.inr (.inr (.inr (.inl 1))))) (List.mem_cons_of_mem _ (List.mem_cons_of_mem _ (List.mem_cons_of_mem _ List.mem_cons_self)))
      have e3 : v3 = .int 0 := e3
      have e0 : v0 = .ref b := by rw [← hex1]; exact e0
      rw [e3] at g3
      rw [e0] at g0
      refine lv_iload_n hx hb zd_18 rfl g3 ?_
      refine lv_aload_n hx hb zd_19 rfl g0 ?_
      refine va_slen (A := fun q : Nat => s.heap.size ≤ q) hx hb hX hbl (Nat.not_le.mpr hbl) Dy.2.2.2.1 zd_20 ?_
      refine lv_bipush (v := 6) hx hb zd_21 (by decide) ?_
      refine lv_isub hx hb zd_23 ?_
      have hneg : Int32.ofNat L - 6 < 0 := by
        match L, h6 with
        | 0, _ => decide
        | 1, _ => decide
        | 2, _ => decide
        | 3, _ => decide
        | 4, _ => decide
        | 5, _ => decide
      refine lv_icmp_gt (tgt := 1463) hx hb zd_24 (by decide) (fun _ => ?_) (fun z => absurd hneg z)
      refine lv_iconst (v := 1) hx hb zd_1463 (by decide) ?_
      have hlocs : ∀ q ∈ locs', s.heap.size ≤ q.base := Dy.2.2.2.1.2.2
      refine va_forget hlocs ?_
      refine W.widen (k := 600000) (n := 7302250) (Nat.le_of_ble_eq_true rfl) (Nat.le_of_ble_eq_true rfl) ?_
      exact lw_ret hx hb hr hlocks zd_1464
    · have hX6 := hX6 (by omega)
      have C6 := fun bp => zq_c p s m meth c b bp zx_xa xs ex hx hb hml hown htb hX6
      refine zs_run zk_tt zk_aa 1000 _ _ _ _ _ _ _ _ _ (zx_pz_ok zv_head) (C6 33) Dy hl' trivial ?_
      intro o ho as2 tys2 ws2 H2 locs2 hp2
      rcases List.mem_cons.mp ho with rfl | ho
      rotate_left
      · cases ho
      refine ⟨fun rv hrv => (by cases hrv), fun cs2 sl2 lo2 st2 hq ls2 sv2 Dy2 hl2 hs2 => ?_⟩
      cases hq
      match sv2, hs2 with
      | [v], ⟨⟨x, hv⟩, _⟩ =>
        rw [hv]
        by_cases hin : x.toInt < 0 ∨ 48 < x.toInt
        · exact lv_tableOut hx hb zd_33 hin (by decide : ((33 : Nat) : Int) + 1424 = ((1457 : Nat) : Int)) (zq_49 (C6 1000000) hr hlocks Dy2 hl2)
        · obtain ⟨j, hj⟩ := Int.eq_ofNat_of_zero_le (a := x.toInt) (by omega)
          have hj2 : j < 49 := by omega
          have n1 : ¬ x.toInt < 0 := by omega
          have n2 : ¬ 48 < x.toInt := by omega
          have hz : (x.toInt - 0).toNat = j := by omega
          match j, hj2, hz with
          | 0, _, hz => exact lv_tableIn (off := 211) (tgt := 244) hx hb zd_33 n1 n2 (by rw [hz]; rfl) (by decide) (zq_0 (C6 1000000) hr hlocks Dy2 hl2)
          | 1, _, hz => exact lv_tableIn (off := 274) (tgt := 307) hx hb zd_33 n1 n2 (by rw [hz]; rfl) (by decide) (zq_1 (C6 1000000) hr hlocks Dy2 hl2)
          | 2, _, hz => exact lv_tableIn (off := 297) (tgt := 330) hx hb zd_33 n1 n2 (by rw [hz]; rfl) (by decide) (zq_2 (C6 1000000) hr hlocks Dy2 hl2)
          | 3, _, hz => exact lv_tableIn (off := 310) (tgt := 343) hx hb zd_33 n1 n2 (by rw [hz]; rfl) (by decide) (zq_3 (C6 1000000) hr hlocks Dy2 hl2)
          | 4, _, hz => exact lv_tableIn (off := 333) (tgt := 366) hx hb zd_33 n1 n2 (by rw [hz]; rfl) (by decide) (zq_4 (C6 1000000) hr hlocks Dy2 hl2)
          | 5, _, hz => exact lv_tableIn (off := 366) (tgt := 399) hx hb zd_33 n1 n2 (by rw [hz]; rfl) (by decide) (zq_5 (C6 1000000) hr hlocks Dy2 hl2)
          | 6, _, hz => exact lv_tableIn (off := 399) (tgt := 432) hx hb zd_33 n1 n2 (by rw [hz]; rfl) (by decide) (zq_6 (C6 1000000) hr hlocks Dy2 hl2)
          | 7, _, hz => exact lv_tableIn (off := 432) (tgt := 465) hx hb zd_33 n1 n2 (by rw [hz]; rfl) (by decide) (zq_7 (C6 1000000) hr hlocks Dy2 hl2)
          | 8, _, hz => exact lv_tableIn (off := 445) (tgt := 478) hx hb zd_33 n1 n2 (by rw [hz]; rfl) (by decide) (zq_8 (C6 1000000) hr hlocks Dy2 hl2)
          | 9, _, hz => exact lv_tableIn (off := 478) (tgt := 511) hx hb zd_33 n1 n2 (by rw [hz]; rfl) (by decide) (zq_9 (C6 1000000) hr hlocks Dy2 hl2)
          | 10, _, hz => exact lv_tableIn (off := 501) (tgt := 534) hx hb zd_33 n1 n2 (by rw [hz]; rfl) (by decide) (zq_10 (C6 1000000) hr hlocks Dy2 hl2)
          | 11, _, hz => exact lv_tableIn (off := 534) (tgt := 567) hx hb zd_33 n1 n2 (by rw [hz]; rfl) (by decide) (zq_11 (C6 1000000) hr hlocks Dy2 hl2)
          | 12, _, hz => exact lv_tableIn (off := 567) (tgt := 600) hx hb zd_33 n1 n2 (by rw [hz]; rfl) (by decide) (zq_12 (C6 1000000) hr hlocks Dy2 hl2)
          | 13, _, hz => exact lv_tableIn (off := 600) (tgt := 633) hx hb zd_33 n1 n2 (by rw [hz]; rfl) (by decide) (zq_13 (C6 1000000) hr hlocks Dy2 hl2)
          | 14, _, hz => exact lv_tableIn (off := 613) (tgt := 646) hx hb zd_33 n1 n2 (by rw [hz]; rfl) (by decide) (zq_14 (C6 1000000) hr hlocks Dy2 hl2)
          | 15, _, hz => exact lv_tableIn (off := 626) (tgt := 659) hx hb zd_33 n1 n2 (by rw [hz]; rfl) (by decide) (zq_15 (C6 1000000) hr hlocks Dy2 hl2)
          | 16, _, hz => exact lv_tableIn (off := 659) (tgt := 692) hx hb zd_33 n1 n2 (by rw [hz]; rfl) (by decide) (zq_16 (C6 1000000) hr hlocks Dy2 hl2)
          | 17, _, hz => exact lv_tableIn (off := 682) (tgt := 715) hx hb zd_33 n1 n2 (by rw [hz]; rfl) (by decide) (zq_17 (C6 1000000) hr hlocks Dy2 hl2)
          | 18, _, hz => exact lv_tableIn (off := 705) (tgt := 738) hx hb zd_33 n1 n2 (by rw [hz]; rfl) (by decide) (zq_18 (C6 1000000) hr hlocks Dy2 hl2)
          | 19, _, hz => exact lv_tableIn (off := 718) (tgt := 751) hx hb zd_33 n1 n2 (by rw [hz]; rfl) (by decide) (zq_19 (C6 1000000) hr hlocks Dy2 hl2)
          | 20, _, hz => exact lv_tableIn (off := 741) (tgt := 774) hx hb zd_33 n1 n2 (by rw [hz]; rfl) (by decide) (zq_20 (C6 1000000) hr hlocks Dy2 hl2)
          | 21, _, hz => exact lv_tableIn (off := 764) (tgt := 797) hx hb zd_33 n1 n2 (by rw [hz]; rfl) (by decide) (zq_21 (C6 1000000) hr hlocks Dy2 hl2)
          | 22, _, hz => exact lv_tableIn (off := 787) (tgt := 820) hx hb zd_33 n1 n2 (by rw [hz]; rfl) (by decide) (zq_22 (C6 1000000) hr hlocks Dy2 hl2)
          | 23, _, hz => exact lv_tableIn (off := 800) (tgt := 833) hx hb zd_33 n1 n2 (by rw [hz]; rfl) (by decide) (zq_23 (C6 1000000) hr hlocks Dy2 hl2)
          | 24, _, hz => exact lv_tableIn (off := 823) (tgt := 856) hx hb zd_33 n1 n2 (by rw [hz]; rfl) (by decide) (zq_24 (C6 1000000) hr hlocks Dy2 hl2)
          | 25, _, hz => exact lv_tableIn (off := 856) (tgt := 889) hx hb zd_33 n1 n2 (by rw [hz]; rfl) (by decide) (zq_25 (C6 1000000) hr hlocks Dy2 hl2)
          | 26, _, hz => exact lv_tableIn (off := 889) (tgt := 922) hx hb zd_33 n1 n2 (by rw [hz]; rfl) (by decide) (zq_26 (C6 1000000) hr hlocks Dy2 hl2)
          | 27, _, hz => exact lv_tableIn (off := 922) (tgt := 955) hx hb zd_33 n1 n2 (by rw [hz]; rfl) (by decide) (zq_27 (C6 1000000) hr hlocks Dy2 hl2)
          | 28, _, hz => exact lv_tableIn (off := 955) (tgt := 988) hx hb zd_33 n1 n2 (by rw [hz]; rfl) (by decide) (zq_28 (C6 1000000) hr hlocks Dy2 hl2)
          | 29, _, hz => exact lv_tableIn (off := 968) (tgt := 1001) hx hb zd_33 n1 n2 (by rw [hz]; rfl) (by decide) (zq_29 (C6 1000000) hr hlocks Dy2 hl2)
          | 30, _, hz => exact lv_tableIn (off := 981) (tgt := 1014) hx hb zd_33 n1 n2 (by rw [hz]; rfl) (by decide) (zq_30 (C6 1000000) hr hlocks Dy2 hl2)
          | 31, _, hz => exact lv_tableIn (off := 994) (tgt := 1027) hx hb zd_33 n1 n2 (by rw [hz]; rfl) (by decide) (zq_31 (C6 1000000) hr hlocks Dy2 hl2)
          | 32, _, hz => exact lv_tableIn (off := 1007) (tgt := 1040) hx hb zd_33 n1 n2 (by rw [hz]; rfl) (by decide) (zq_32 (C6 1000000) hr hlocks Dy2 hl2)
          | 33, _, hz => exact lv_tableIn (off := 1020) (tgt := 1053) hx hb zd_33 n1 n2 (by rw [hz]; rfl) (by decide) (zq_33 (C6 1000000) hr hlocks Dy2 hl2)
          | 34, _, hz => exact lv_tableIn (off := 1033) (tgt := 1066) hx hb zd_33 n1 n2 (by rw [hz]; rfl) (by decide) (zq_34 (C6 1000000) hr hlocks Dy2 hl2)
          | 35, _, hz => exact lv_tableIn (off := 1046) (tgt := 1079) hx hb zd_33 n1 n2 (by rw [hz]; rfl) (by decide) (zq_35 (C6 1000000) hr hlocks Dy2 hl2)
          | 36, _, hz => exact lv_tableIn (off := 1059) (tgt := 1092) hx hb zd_33 n1 n2 (by rw [hz]; rfl) (by decide) (zq_36 (C6 1000000) hr hlocks Dy2 hl2)
          | 37, _, hz => exact lv_tableIn (off := 1082) (tgt := 1115) hx hb zd_33 n1 n2 (by rw [hz]; rfl) (by decide) (zq_37 (C6 1000000) hr hlocks Dy2 hl2)
          | 38, _, hz => exact lv_tableIn (off := 1105) (tgt := 1138) hx hb zd_33 n1 n2 (by rw [hz]; rfl) (by decide) (zq_38 (C6 1000000) hr hlocks Dy2 hl2)
          | 39, _, hz => exact lv_tableIn (off := 1138) (tgt := 1171) hx hb zd_33 n1 n2 (by rw [hz]; rfl) (by decide) (zq_39 (C6 1000000) hr hlocks Dy2 hl2)
          | 40, _, hz => exact lv_tableIn (off := 1161) (tgt := 1194) hx hb zd_33 n1 n2 (by rw [hz]; rfl) (by decide) (zq_40 (C6 1000000) hr hlocks Dy2 hl2)
          | 41, _, hz => exact lv_tableIn (off := 1220) (tgt := 1253) hx hb zd_33 n1 n2 (by rw [hz]; rfl) (by decide) (zq_41 (C6 1000000) hr hlocks Dy2 hl2)
          | 42, _, hz => exact lv_tableIn (off := 1243) (tgt := 1276) hx hb zd_33 n1 n2 (by rw [hz]; rfl) (by decide) (zq_42 (C6 1000000) hr hlocks Dy2 hl2)
          | 43, _, hz => exact lv_tableIn (off := 1266) (tgt := 1299) hx hb zd_33 n1 n2 (by rw [hz]; rfl) (by decide) (zq_43 (C6 1000000) hr hlocks Dy2 hl2)
          | 44, _, hz => exact lv_tableIn (off := 1289) (tgt := 1322) hx hb zd_33 n1 n2 (by rw [hz]; rfl) (by decide) (zq_44 (C6 1000000) hr hlocks Dy2 hl2)
          | 45, _, hz => exact lv_tableIn (off := 1322) (tgt := 1355) hx hb zd_33 n1 n2 (by rw [hz]; rfl) (by decide) (zq_45 (C6 1000000) hr hlocks Dy2 hl2)
          | 46, _, hz => exact lv_tableIn (off := 1355) (tgt := 1388) hx hb zd_33 n1 n2 (by rw [hz]; rfl) (by decide) (zq_46 (C6 1000000) hr hlocks Dy2 hl2)
          | 47, _, hz => exact lv_tableIn (off := 1378) (tgt := 1411) hx hb zd_33 n1 n2 (by rw [hz]; rfl) (by decide) (zq_47 (C6 1000000) hr hlocks Dy2 hl2)
          | 48, _, hz => exact lv_tableIn (off := 1401) (tgt := 1434) hx hb zd_33 n1 n2 (by rw [hz]; rfl) (by decide) (zq_48 (C6 1000000) hr hlocks Dy2 hl2)
          | j + 49, hj2, _ => exact absurd hj2 (by omega)
set_option maxHeartbeats 4000000 in
theorem lw_walk (l : Launch) (hflags : l.flags = flags0) (b : Addr) (xs : List Int32) : MetFree l x (headSpec (Jvm.Cond.code x code maxLocals ret :: tables_1) room_1) (lw_P b xs) (fun _ _ _ _ _ => True) lw_Q := by
  refine MetFree.of_bodyS (code := code) (maxLocals := maxLocals) (ret := ret) (by decide) ?_ ?_
  · intro args s m h hn
    obtain ⟨meth, c, h1, h2, h3, h4, h5, h6, -, -⟩ := Cond.code_spec hn (atoms_spec (ws := Jvm.Cond.code x code maxLocals ret :: tables_1) h _ List.mem_cons_self)
    exact ⟨meth, c, h1, h2, h3, h4, h5, h6⟩
  · intro p e s m args below meth c s₁ B hml0 hP _
    obtain ⟨rfl, hx, hbd, hgv⟩ := hP
    obtain ⟨scr, harrAt, hlist, hof, hsmall⟩ := hx
    obtain ⟨hcb, hkn, -, -⟩ := State.arrayAt?_spec harrAt
    have hown : s.vm.findClass R_law = some m.cls := findClass_of_methodNamed B.named
    have hts0 : ∀ c ∈ (Jvm.Cond.code x code maxLocals ret :: tables_1), c.before #[Value.ref b] s = true := atoms_spec (ws := Jvm.Cond.code x code maxLocals ret :: tables_1) B.pre
    have hts : ∀ w ∈ lw_tbl, w.before #[Value.ref b] s = true := k2_hts_sels lw_privs (fun w hw => hts0 w (List.mem_cons_of_mem _ hw)) lw_privs_ok
    have hml : c.maxLocals = 4 := B.maxLocals_eq (hts0 _ List.mem_cons_self)
    have X₀ : Stand p l e room_1 s m #[Value.ref b] below meth c s₁ [] 0 0 := Stand.of_body B
    have hh0 : s₁.heap = s.heap := by rw [B.state]; rfl
    have hsz : scr.slots.size = xs.length := by rw [← Array.length_toList, hlist, List.length_map]
    have hval : ∀ j : Nat, j < xs.length → scr.slots[j]? = some (.int (xs.getD j 0)) := fun j hj => by
      rw [← Array.getElem?_toList, hlist]
      simp [hj]
    have hbl : b < s.heap.size := (Array.getElem?_eq_some_iff.mp hcb).1
    have hX : va_X b xs.length (fun j => xs.getD j 0) s s.heap := ⟨scr, hcb, hof, hkn, hsz, hval⟩
    have K : W p l e room_1 s m #[Value.ref b] below meth c s₁.heap [] 0 0 (lw_Z below #[Value.ref b] s) (entryFrame m ([Value.ref b] : List Value).toArray 4) := by
      rw [hh0]
      exact whole_start l hflags hbd ⟨B.exec, B.bytes, B.returns, hml, hown, hts, hX, hbl, B.notSynchronized, hgv⟩
    obtain ⟨t, a1, o, b1, b2, b3⟩ := K s₁ rfl X₀
    exact ⟨t, o, a1, b1, b2, b3⟩
theorem lw_pre_spec {args : Array Value} {s : State} (h : (Jvm.Cond.and given_1 narrow_1).before args s = true) (hr : rest_1_c.before args s = true) : ∃ (b : Addr) (xs : List Int32), lw_P b xs args s := by
  have hs := flat_of_before _ h
  have hq := flat_of_before _ hr
  have hc : (Cond.count 1).before args s = true := hs _ (by decide +kernel)
  have harr : (Cond.arrayOf (.arg 0) .int).before args s = true := hs _ (by decide +kernel)
  have hle : (Cond.le (.length (.arg 0)) (.int 6)).before args s = true := hs _ (by decide +kernel)
  have hlen : (Cond.isInt (.length (.arg 0))).before args s = true := hq _ (by decide +kernel)
  have hall : (Cond.all (.arg 0) (.isInt (.elem (.arg 0) (.index 0)))).before args s = true := hq _ (by decide +kernel)
  obtain ⟨b, xs, hb, hx⟩ := State.ints_of_pre rfl harr hlen hall
  have hsm : xs.length < 2 ^ 31 := hx.choose_spec.2.2.2
  have hev : (Term.length (.arg 0)).eval args s none [] s = some (.int xs.length.toInt32) := hx.length_eval hb
  have hv := Cond.le_ints hev (show (Term.int 6).eval args s none [] s = some (.int 6) from rfl)
  have hd : xs.length.toInt32 ≤ 6 := by
    simpa [Cond.before, Cond.holds, hv] using hle
  have hN : xs.length ≤ 6 := (Int32.ofNat_le_ofNat hsm (by decide)).mp (show Int32.ofNat xs.length ≤ Int32.ofNat 6 from hd)
  exact ⟨b, xs, Cond.one_arg hc (show args[0]? = some (.ref b) from hb), hx, hN, h⟩
theorem lw_comes (l : Launch) (hflags : l.flags = flags0) : Comes l x (Jvm.Cond.code x code maxLocals ret :: tables_1) room_1 (fun tb e args s => Calls_1 tb e args s ∧ rest_1 tb e args s ∧ Pre_1 tb e args s)
    (fun _ _ args s o t => lw_Q args s o t) := by
  intro p e ha hc hk s m args below hf hfit hheap happ hpre
  obtain ⟨b, xs, hP⟩ := lw_pre_spec hpre.2.2 hpre.2.1
  obtain ⟨k, o, h1, h2, h3, hQ⟩ := lw_walk l hflags b xs p e ha hc hk s m args below hf ((Spec.applies_iff_loose hf).mp happ).1 hP trivial
  exact ⟨k, o, h1, h2, h3, hQ⟩
theorem lw_frame {s t : State} {o : Outcome} {args : Array Value} (h : Framed s o t [] 600000 7302250) :
    Framed s o t (fieldLocs frame_1_writes args s ++ arrayLocs frame_1_arrays args s ++ staticLocs frame_1_statics s) 600000 7302250 := h
theorem lw_limb (L : Cond) (hL : ∀ (args : Array Value) (s t : State), L.after args s (.returned (some (.int 1))) t = true) :
    ArmFor flags0 classFile x code maxLocals ret World_1 tables_1 room_1 Calls_1 rest_1 Pre_1
      (fun tb e a s o t => postC L tb e a s o t ∧ Framed s o t (fieldLocs frame_1_writes a s ++ arrayLocs frame_1_arrays a s ++ staticLocs frame_1_statics s) 600000 7302250) := by
  intro l hflags _ _ p e ha hc hk s m args below hf hfit hheap happ hpre
  obtain ⟨k, o, h1, h2, h3, rfl, hF⟩ := lw_comes l hflags p e ha hc hk s m args below hf hfit hheap happ hpre
  exact ⟨k, _, h1, h2, h3, hL args s _, lw_frame hF⟩
theorem i_vc : Claimed_1_1 ∧ Claimed_1_2 := ⟨lw_limb limb_1_1 (fun args s t => by simp [limb_1_1, Cond.after, Cond.holds, Cond.value]), lw_limb limb_1_2 (fun args s t => Cond.after_iff.mpr (by
  first | (rw [show limb_1_2 = Cond.eq .result (.int 1) from rfl, Cond.eq_ints (x := 1) (y := 1) rfl rfl]; simp; done) | (simp [limb_1_2, Cond.value, Term.eval]; done)))⟩
