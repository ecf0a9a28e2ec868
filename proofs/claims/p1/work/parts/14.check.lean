/-! the tables are checked, by program (wip/p1/gen2.py) -/
def zy_dv (a : zx_V) : Value := match a with
  | .inl n => .int (Int32.ofNat n)
  | .inr (.inr (.inl n)) => .long (Int64.ofNat n)
  | _ => .null
def zx_isD (a : zx_V) : Bool := match a with
  | .inl _ => true
  | .inr (.inl none) => true
  | .inr (.inr (.inl _)) => true
  | _ => false
theorem zy_dvs {ρ : Nat → Int32} {ex : Nat → Value} {as : List Nat} : ∀ {l : List zx_V}, l.all zx_isD = true → zy_s ρ ex as l (l.map zy_dv)
  | [], _ => trivial
  | a :: r, h => by
    obtain ⟨h1, h2⟩ := Bool.and_eq_true_iff.mp (show (zx_isD a && r.all zx_isD) = true from h)
    refine ⟨?_, zy_dvs h2⟩
    match a, h1 with
    | .inl _, _ => exact rfl
    | .inr (.inl none), _ => exact rfl
    | .inr (.inr (.inl _)), _ => exact rfl
theorem zk_one {ci : Nat} {C : String} {T : u_T} {N : Nat} {ty : Nat → FieldType} (ps : List Nat) (hc : zx_cl[ci]? = some (C, T, N)) (h1 : u_ws C T N = ps.filterMap (fun i => lw_tbl[i]?)) (h2 : (u_ws C T N).all goodWord = true) (h3 : ∀ a, a < N → ∀ b, b < N → a ≠ b → (T a).2.1 ≠ (T b).2.1) (h4 : ∀ j, j < N → parseFieldDescriptor (T j).2.2.1 = some (ty j)) (h5 : ∀ j, j < N → defaultValue (ty j) = vp_V ((zx_dfl.getD ci []).map zy_dv) j) (h6 : (zx_dfl.getD ci []).all zx_isD = true) : zk_cl ci := by
  intro C' T' N' hc'
  rw [hc] at hc'
  cases hc'
  refine ⟨fun w hw => ?_, h3, ty, h4, _, h5, fun ρ ex as => zy_dvs h6⟩
  have g := List.all_eq_true.mp h2 w hw
  rw [h1] at hw
  obtain ⟨i, -, hi⟩ := List.mem_filterMap.mp hw
  exact List.mem_filter.mpr ⟨List.mem_of_getElem? hi, g⟩
set_option maxRecDepth 100000 in
theorem zk_c0 : zk_cl 0 := zk_one (C := "DeckChairs$Duel") (T := zx_T0) (N := 4) (ty := zx_y0) [530, 532, 534, 536] rfl (by decide +kernel) (by decide +kernel) (by decide +kernel) (by decide +kernel) (by decide +kernel) (by decide +kernel)
set_option maxRecDepth 100000 in
theorem zk_c1 : zk_cl 1 := zk_one (C := "DeckChairs$Formula") (T := zx_T1) (N := 7) (ty := zx_y1) [288, 290, 292, 294, 296, 298, 300] rfl (by decide +kernel) (by decide +kernel) (by decide +kernel) (by decide +kernel) (by decide +kernel) (by decide +kernel)
set_option maxRecDepth 100000 in
theorem zk_c2 : zk_cl 2 := zk_one (C := "DeckChairs$Guesses") (T := zx_T2) (N := 11) (ty := zx_y2) [558, 560, 562, 564, 566, 568, 570, 572, 574, 576, 578] rfl (by decide +kernel) (by decide +kernel) (by decide +kernel) (by decide +kernel) (by decide +kernel) (by decide +kernel)
set_option maxRecDepth 100000 in
theorem zk_c3 : zk_cl 3 := zk_one (C := "DeckChairs$Hinge") (T := zx_T3) (N := 2) (ty := zx_y3) [471, 473] rfl (by decide +kernel) (by decide +kernel) (by decide +kernel) (by decide +kernel) (by decide +kernel) (by decide +kernel)
set_option maxRecDepth 100000 in
theorem zk_c4 : zk_cl 4 := zk_one (C := "DeckChairs$Parser") (T := zx_T4) (N := 6) (ty := zx_y4) [253, 255, 257, 259, 261, 263] rfl (by decide +kernel) (by decide +kernel) (by decide +kernel) (by decide +kernel) (by decide +kernel) (by decide +kernel)
set_option maxRecDepth 100000 in
theorem zk_c5 : zk_cl 5 := zk_one (C := "DeckChairs$Past") (T := zx_T5) (N := 3) (ty := zx_y5) [438, 440, 442] rfl (by decide +kernel) (by decide +kernel) (by decide +kernel) (by decide +kernel) (by decide +kernel) (by decide +kernel)
set_option maxRecDepth 100000 in
theorem zk_c6 : zk_cl 6 := zk_one (C := "DeckChairs$Scene") (T := zx_T6) (N := 9) (ty := zx_y6) [395, 397, 399, 401, 403, 405, 407, 409, 411] rfl (by decide +kernel) (by decide +kernel) (by decide +kernel) (by decide +kernel) (by decide +kernel) (by decide +kernel)
set_option maxRecDepth 100000 in
theorem zk_c7 : zk_cl 7 := zk_one (C := "DeckChairs$Seater") (T := zx_T7) (N := 11) (ty := zx_y7) [495, 497, 499, 501, 503, 505, 507, 509, 511, 513, 515] rfl (by decide +kernel) (by decide +kernel) (by decide +kernel) (by decide +kernel) (by decide +kernel) (by decide +kernel)
set_option maxRecDepth 100000 in
theorem zk_c8 : zk_cl 8 := zk_one (C := "DeckChairs$Shelf") (T := zx_T8) (N := 1) (ty := zx_y8) [430] rfl (by decide +kernel) (by decide +kernel) (by decide +kernel) (by decide +kernel) (by decide +kernel) (by decide +kernel)
set_option maxRecDepth 100000 in
theorem zk_c9 : zk_cl 9 := zk_one (C := "DeckChairs$Tokens") (T := zx_T9) (N := 8) (ty := zx_y9) [225, 227, 229, 231, 233, 235, 237, 239] rfl (by decide +kernel) (by decide +kernel) (by decide +kernel) (by decide +kernel) (by decide +kernel) (by decide +kernel)
set_option maxRecDepth 100000 in
theorem zk_c10 : zk_cl 10 := zk_one (C := "DeckChairs$Told") (T := zx_T10) (N := 13) (ty := zx_y10) [344, 346, 348, 350, 352, 354, 356, 358, 360, 362, 364, 366, 368] rfl (by decide +kernel) (by decide +kernel) (by decide +kernel) (by decide +kernel) (by decide +kernel) (by decide +kernel)
set_option maxRecDepth 100000 in
theorem zk_c11 : zk_cl 11 := zk_one (C := "DeckChairs") (T := zx_T11) (N := 16) (ty := zx_y11) [646, 648, 650, 652, 654, 656, 658, 660, 662, 664, 666, 668, 670, 672, 674, 676] rfl (by decide +kernel) (by decide +kernel) (by decide +kernel) (by decide +kernel) (by decide +kernel) (by decide +kernel)
set_option maxRecDepth 100000 in
theorem zk_c12 : zk_cl 12 := zk_one (C := "DeckChairsModel") (T := zx_T12) (N := 60) (ty := zx_y12) [1445, 1447, 1449, 1451, 1453, 1455, 1457, 1459, 1461, 1463, 1465, 1467, 1469, 1471, 1473, 1475, 1477, 1479, 1481, 1483, 1485, 1487, 1489, 1491, 1493, 1495, 1497, 1499, 1501, 1503, 1505, 1507, 1509, 1511, 1513, 1515, 1517, 1519, 1521, 1523, 1525, 1527, 1529, 1531, 1533, 1535, 1537, 1539, 1541, 1543, 1545, 1547, 1549, 1551, 1553, 1555, 1557, 1559, 1561, 1563] rfl (by decide +kernel) (by decide +kernel) (by decide +kernel) (by decide +kernel) (by decide +kernel) (by decide +kernel)
theorem zk_cls : ∀ ci C T N, zx_cl[ci]? = some (C, T, N) → zk_cl ci := by
  intro ci C T N h
  match ci, h with
  | 0, _ => exact zk_c0
  | 1, _ => exact zk_c1
  | 2, _ => exact zk_c2
  | 3, _ => exact zk_c3
  | 4, _ => exact zk_c4
  | 5, _ => exact zk_c5
  | 6, _ => exact zk_c6
  | 7, _ => exact zk_c7
  | 8, _ => exact zk_c8
  | 9, _ => exact zk_c9
  | 10, _ => exact zk_c10
  | 11, _ => exact zk_c11
  | 12, _ => exact zk_c12
  | n + 13, h => cases h
theorem zk_tt : zk_t := ⟨zk_cls, zx_w_ok (i := 244) (by decide +kernel), zx_w_ok (i := 242) (by decide +kernel), zx_w_ok (i := 476) (by decide +kernel), zx_w_ok (i := 243) (by decide +kernel), zx_w_ok (i := 143) (by decide +kernel), zx_w_ok (i := 144) (by decide +kernel), zx_w_ok (i := 603) (by decide +kernel), zx_w_ok (i := 602) (by decide +kernel), zx_w_ok (i := 133) (by decide +kernel)⟩
def zx_okL (k : Nat) : List zx_RI → Nat → Prop
  | [], _ => True
  | e :: r, pc => zx_ok k pc e = true ∧ zx_okL k r (pc + 1)
theorem zx_okL_at {k : Nat} : ∀ {l : List zx_RI} {n : Nat}, zx_okL k l n → ∀ (i : Nat) (e : zx_RI), l[i]? = some e → zx_ok k (n + i) e = true
  | a :: r, n, ⟨h1, h2⟩, 0, e, he => by cases he; exact h1
  | a :: r, n, ⟨h1, h2⟩, i + 1, e, he => by
    have z := zx_okL_at h2 i e he
    rw [show n + (i + 1) = n + 1 + i by omega]
    exact z
noncomputable def zx_okB (k : Nat) (l : List zx_RI) : Nat → Bool := List.rec (motive := fun _ => Nat → Bool) (fun _ => true) (fun e _ ih pc => zx_n pc fun pc => cond (zx_ok k pc e) (ih (Nat.succ pc)) false) l
theorem zx_okB_ok {k : Nat} : ∀ {l : List zx_RI} {n : Nat}, zx_okB k l n = true → zx_okL k l n
  | [], _, _ => trivial
  | e :: r, n, h => by
    have h : zx_n n (fun pc => cond (zx_ok k pc e) (zx_okB k r (Nat.succ pc)) false) = true := h
    rw [zx_n_eq] at h
    cases hb : zx_ok k n e with
    | false => rw [hb] at h; cases h
    | true => rw [hb] at h; exact ⟨hb, zx_okB_ok h⟩
def zx_okA : List (List zx_RI) → Nat → Prop
  | [], _ => True
  | c :: r, k => zx_okL k c 0 ∧ zx_okA r (k + 1)
theorem zx_okA_at : ∀ {l : List (List zx_RI)} {n : Nat}, zx_okA l n → ∀ i, zx_okL (n + i) (l.getD i []) 0
  | [], n, _, i => by simp [zx_okL]
  | c :: r, n, ⟨h1, h2⟩, 0 => h1
  | c :: r, n, ⟨h1, h2⟩, i + 1 => by
    have z := zx_okA_at h2 i
    rw [show n + (i + 1) = n + 1 + i by omega]
    exact z
theorem zx_okL_ap {k : Nat} : ∀ {a b : List zx_RI} {n m : Nat}, zx_okL k a n → n + a.length = m → zx_okL k b m → zx_okL k (a ++ b) n
  | [], b, n, m, _, h, h2 => by
    have e : n = m := by simpa using h
    subst e
    exact h2
  | x :: a, b, n, m, ⟨h0, h1⟩, h, h2 => ⟨h0, zx_okL_ap h1 (by rw [List.length_cons] at h; omega) h2⟩
set_option maxRecDepth 100000 in
theorem zk_m0_0 : zx_okL 0 zx_c0_0 0 := zx_okB_ok (by decide +kernel)
set_option maxRecDepth 100000 in
theorem zk_m0_1 : zx_okL 0 zx_c0_1 64 := zx_okB_ok (by decide +kernel)
set_option maxRecDepth 100000 in
theorem zk_m0_2 : zx_okL 0 zx_c0_2 128 := zx_okB_ok (by decide +kernel)
set_option maxRecDepth 100000 in
theorem zk_m0_3 : zx_okL 0 zx_c0_3 192 := zx_okB_ok (by decide +kernel)
set_option maxRecDepth 100000 in
theorem zk_m0_4 : zx_okL 0 zx_c0_4 256 := zx_okB_ok (by decide +kernel)
set_option maxRecDepth 100000 in
theorem zk_m0_5 : zx_okL 0 zx_c0_5 320 := zx_okB_ok (by decide +kernel)
set_option maxRecDepth 100000 in
theorem zk_m0_6 : zx_okL 0 zx_c0_6 384 := zx_okB_ok (by decide +kernel)
set_option maxRecDepth 100000 in
theorem zk_m0_7 : zx_okL 0 zx_c0_7 448 := zx_okB_ok (by decide +kernel)
set_option maxRecDepth 100000 in
theorem zk_m0_8 : zx_okL 0 zx_c0_8 512 := zx_okB_ok (by decide +kernel)
set_option maxRecDepth 100000 in
theorem zk_m0_9 : zx_okL 0 zx_c0_9 576 := zx_okB_ok (by decide +kernel)
set_option maxRecDepth 100000 in
theorem zk_m0_10 : zx_okL 0 zx_c0_10 640 := zx_okB_ok (by decide +kernel)
set_option maxRecDepth 100000 in
theorem zk_m0_11 : zx_okL 0 zx_c0_11 704 := zx_okB_ok (by decide +kernel)
set_option maxRecDepth 100000 in
theorem zk_m0_12 : zx_okL 0 zx_c0_12 768 := zx_okB_ok (by decide +kernel)
set_option maxRecDepth 100000 in
theorem zk_m0_13 : zx_okL 0 zx_c0_13 832 := zx_okB_ok (by decide +kernel)
set_option maxRecDepth 100000 in
theorem zk_m0_14 : zx_okL 0 zx_c0_14 896 := zx_okB_ok (by decide +kernel)
set_option maxRecDepth 100000 in
theorem zk_m0_15 : zx_okL 0 zx_c0_15 960 := zx_okB_ok (by decide +kernel)
set_option maxRecDepth 100000 in
theorem zk_m0_16 : zx_okL 0 zx_c0_16 1024 := zx_okB_ok (by decide +kernel)
set_option maxRecDepth 100000 in
theorem zk_m0_17 : zx_okL 0 zx_c0_17 1088 := zx_okB_ok (by decide +kernel)
set_option maxRecDepth 100000 in
theorem zk_m0_18 : zx_okL 0 zx_c0_18 1152 := zx_okB_ok (by decide +kernel)
set_option maxRecDepth 100000 in
theorem zk_m0_19 : zx_okL 0 zx_c0_19 1216 := zx_okB_ok (by decide +kernel)
set_option maxRecDepth 100000 in
theorem zk_m0_20 : zx_okL 0 zx_c0_20 1280 := zx_okB_ok (by decide +kernel)
set_option maxRecDepth 100000 in
theorem zk_m0_21 : zx_okL 0 zx_c0_21 1344 := zx_okB_ok (by decide +kernel)
set_option maxRecDepth 100000 in
theorem zk_m0_22 : zx_okL 0 zx_c0_22 1408 := zx_okB_ok (by decide +kernel)
theorem zk_m0 : zx_okL 0 zx_c0 0 := zx_okL_ap zk_m0_0 rfl (zx_okL_ap zk_m0_1 rfl (zx_okL_ap zk_m0_2 rfl (zx_okL_ap zk_m0_3 rfl (zx_okL_ap zk_m0_4 rfl (zx_okL_ap zk_m0_5 rfl (zx_okL_ap zk_m0_6 rfl (zx_okL_ap zk_m0_7 rfl (zx_okL_ap zk_m0_8 rfl (zx_okL_ap zk_m0_9 rfl (zx_okL_ap zk_m0_10 rfl (zx_okL_ap zk_m0_11 rfl (zx_okL_ap zk_m0_12 rfl (zx_okL_ap zk_m0_13 rfl (zx_okL_ap zk_m0_14 rfl (zx_okL_ap zk_m0_15 rfl (zx_okL_ap zk_m0_16 rfl (zx_okL_ap zk_m0_17 rfl (zx_okL_ap zk_m0_18 rfl (zx_okL_ap zk_m0_19 rfl (zx_okL_ap zk_m0_20 rfl (zx_okL_ap zk_m0_21 rfl (zk_m0_22))))))))))))))))))))))
set_option maxRecDepth 100000 in
theorem zk_m1 : zx_okL 1 zx_c1 0 := zx_okB_ok (by decide +kernel)
set_option maxRecDepth 100000 in
theorem zk_m2 : zx_okL 2 zx_c2 0 := zx_okB_ok (by decide +kernel)
set_option maxRecDepth 100000 in
theorem zk_m3 : zx_okL 3 zx_c3 0 := zx_okB_ok (by decide +kernel)
set_option maxRecDepth 100000 in
theorem zk_m4 : zx_okL 4 zx_c4 0 := zx_okB_ok (by decide +kernel)
set_option maxRecDepth 100000 in
theorem zk_m5 : zx_okL 5 zx_c5 0 := zx_okB_ok (by decide +kernel)
set_option maxRecDepth 100000 in
theorem zk_m6 : zx_okL 6 zx_c6 0 := zx_okB_ok (by decide +kernel)
set_option maxRecDepth 100000 in
theorem zk_m7 : zx_okL 7 zx_c7 0 := zx_okB_ok (by decide +kernel)
set_option maxRecDepth 100000 in
theorem zk_m8 : zx_okL 8 zx_c8 0 := zx_okB_ok (by decide +kernel)
set_option maxRecDepth 100000 in
theorem zk_m9 : zx_okL 9 zx_c9 0 := zx_okB_ok (by decide +kernel)
set_option maxRecDepth 100000 in
theorem zk_m10 : zx_okL 10 zx_c10 0 := zx_okB_ok (by decide +kernel)
set_option maxRecDepth 100000 in
theorem zk_m11 : zx_okL 11 zx_c11 0 := zx_okB_ok (by decide +kernel)
set_option maxRecDepth 100000 in
theorem zk_m12 : zx_okL 12 zx_c12 0 := zx_okB_ok (by decide +kernel)
set_option maxRecDepth 100000 in
theorem zk_m13 : zx_okL 13 zx_c13 0 := zx_okB_ok (by decide +kernel)
set_option maxRecDepth 100000 in
theorem zk_m14 : zx_okL 14 zx_c14 0 := zx_okB_ok (by decide +kernel)
set_option maxRecDepth 100000 in
theorem zk_m15 : zx_okL 15 zx_c15 0 := zx_okB_ok (by decide +kernel)
set_option maxRecDepth 100000 in
theorem zk_m16 : zx_okL 16 zx_c16 0 := zx_okB_ok (by decide +kernel)
set_option maxRecDepth 100000 in
theorem zk_m17 : zx_okL 17 zx_c17 0 := zx_okB_ok (by decide +kernel)
set_option maxRecDepth 100000 in
theorem zk_m18 : zx_okL 18 zx_c18 0 := zx_okB_ok (by decide +kernel)
set_option maxRecDepth 100000 in
theorem zk_m19 : zx_okL 19 zx_c19 0 := zx_okB_ok (by decide +kernel)
set_option maxRecDepth 100000 in
theorem zk_m20 : zx_okL 20 zx_c20 0 := zx_okB_ok (by decide +kernel)
set_option maxRecDepth 100000 in
theorem zk_m21 : zx_okL 21 zx_c21 0 := zx_okB_ok (by decide +kernel)
set_option maxRecDepth 100000 in
theorem zk_m22 : zx_okL 22 zx_c22 0 := zx_okB_ok (by decide +kernel)
set_option maxRecDepth 100000 in
theorem zk_m23 : zx_okL 23 zx_c23 0 := zx_okB_ok (by decide +kernel)
set_option maxRecDepth 100000 in
theorem zk_m24 : zx_okL 24 zx_c24 0 := zx_okB_ok (by decide +kernel)
set_option maxRecDepth 100000 in
theorem zk_m25 : zx_okL 25 zx_c25 0 := zx_okB_ok (by decide +kernel)
set_option maxRecDepth 100000 in
theorem zk_m26 : zx_okL 26 zx_c26 0 := zx_okB_ok (by decide +kernel)
set_option maxRecDepth 100000 in
theorem zk_m27 : zx_okL 27 zx_c27 0 := zx_okB_ok (by decide +kernel)
set_option maxRecDepth 100000 in
theorem zk_m28 : zx_okL 28 zx_c28 0 := zx_okB_ok (by decide +kernel)
set_option maxRecDepth 100000 in
theorem zk_m29 : zx_okL 29 zx_c29 0 := zx_okB_ok (by decide +kernel)
set_option maxRecDepth 100000 in
theorem zk_m30 : zx_okL 30 zx_c30 0 := zx_okB_ok (by decide +kernel)
set_option maxRecDepth 100000 in
theorem zk_m31 : zx_okL 31 zx_c31 0 := zx_okB_ok (by decide +kernel)
set_option maxRecDepth 100000 in
theorem zk_m32 : zx_okL 32 zx_c32 0 := zx_okB_ok (by decide +kernel)
set_option maxRecDepth 100000 in
theorem zk_m33 : zx_okL 33 zx_c33 0 := zx_okB_ok (by decide +kernel)
set_option maxRecDepth 100000 in
theorem zk_m34 : zx_okL 34 zx_c34 0 := zx_okB_ok (by decide +kernel)
set_option maxRecDepth 100000 in
theorem zk_m35 : zx_okL 35 zx_c35 0 := zx_okB_ok (by decide +kernel)
set_option maxRecDepth 100000 in
theorem zk_m36 : zx_okL 36 zx_c36 0 := zx_okB_ok (by decide +kernel)
set_option maxRecDepth 100000 in
theorem zk_m37 : zx_okL 37 zx_c37 0 := zx_okB_ok (by decide +kernel)
set_option maxRecDepth 100000 in
theorem zk_m38 : zx_okL 38 zx_c38 0 := zx_okB_ok (by decide +kernel)
set_option maxRecDepth 100000 in
theorem zk_m39 : zx_okL 39 zx_c39 0 := zx_okB_ok (by decide +kernel)
set_option maxRecDepth 100000 in
theorem zk_m40 : zx_okL 40 zx_c40 0 := zx_okB_ok (by decide +kernel)
set_option maxRecDepth 100000 in
theorem zk_m41 : zx_okL 41 zx_c41 0 := zx_okB_ok (by decide +kernel)
set_option maxRecDepth 100000 in
theorem zk_m42 : zx_okL 42 zx_c42 0 := zx_okB_ok (by decide +kernel)
set_option maxRecDepth 100000 in
theorem zk_m43 : zx_okL 43 zx_c43 0 := zx_okB_ok (by decide +kernel)
set_option maxRecDepth 100000 in
theorem zk_m44 : zx_okL 44 zx_c44 0 := zx_okB_ok (by decide +kernel)
set_option maxRecDepth 100000 in
theorem zk_m45 : zx_okL 45 zx_c45 0 := zx_okB_ok (by decide +kernel)
set_option maxRecDepth 100000 in
theorem zk_m46 : zx_okL 46 zx_c46 0 := zx_okB_ok (by decide +kernel)
set_option maxRecDepth 100000 in
theorem zk_m47 : zx_okL 47 zx_c47 0 := zx_okB_ok (by decide +kernel)
set_option maxRecDepth 100000 in
theorem zk_m48 : zx_okL 48 zx_c48 0 := zx_okB_ok (by decide +kernel)
set_option maxRecDepth 100000 in
theorem zk_m49 : zx_okL 49 zx_c49 0 := zx_okB_ok (by decide +kernel)
set_option maxRecDepth 100000 in
theorem zk_m50 : zx_okL 50 zx_c50 0 := zx_okB_ok (by decide +kernel)
set_option maxRecDepth 100000 in
theorem zk_m51 : zx_okL 51 zx_c51 0 := zx_okB_ok (by decide +kernel)
set_option maxRecDepth 100000 in
theorem zk_m52 : zx_okL 52 zx_c52 0 := zx_okB_ok (by decide +kernel)
set_option maxRecDepth 100000 in
theorem zk_m53 : zx_okL 53 zx_c53 0 := zx_okB_ok (by decide +kernel)
set_option maxRecDepth 100000 in
theorem zk_m54 : zx_okL 54 zx_c54 0 := zx_okB_ok (by decide +kernel)
set_option maxRecDepth 100000 in
theorem zk_m55 : zx_okL 55 zx_c55 0 := zx_okB_ok (by decide +kernel)
set_option maxRecDepth 100000 in
theorem zk_m56 : zx_okL 56 zx_c56 0 := zx_okB_ok (by decide +kernel)
set_option maxRecDepth 100000 in
theorem zk_m57 : zx_okL 57 zx_c57 0 := zx_okB_ok (by decide +kernel)
set_option maxRecDepth 100000 in
theorem zk_m58 : zx_okL 58 zx_c58 0 := zx_okB_ok (by decide +kernel)
set_option maxRecDepth 100000 in
theorem zk_m59 : zx_okL 59 zx_c59 0 := zx_okB_ok (by decide +kernel)
set_option maxRecDepth 100000 in
theorem zk_m60 : zx_okL 60 zx_c60 0 := zx_okB_ok (by decide +kernel)
set_option maxRecDepth 100000 in
theorem zk_m61 : zx_okL 61 zx_c61 0 := zx_okB_ok (by decide +kernel)
set_option maxRecDepth 100000 in
theorem zk_m62 : zx_okL 62 zx_c62 0 := zx_okB_ok (by decide +kernel)
set_option maxRecDepth 100000 in
theorem zk_m63 : zx_okL 63 zx_c63 0 := zx_okB_ok (by decide +kernel)
set_option maxRecDepth 100000 in
theorem zk_m64 : zx_okL 64 zx_c64 0 := zx_okB_ok (by decide +kernel)
set_option maxRecDepth 100000 in
theorem zk_m65 : zx_okL 65 zx_c65 0 := zx_okB_ok (by decide +kernel)
set_option maxRecDepth 100000 in
theorem zk_m66 : zx_okL 66 zx_c66 0 := zx_okB_ok (by decide +kernel)
set_option maxRecDepth 100000 in
theorem zk_m67 : zx_okL 67 zx_c67 0 := zx_okB_ok (by decide +kernel)
set_option maxRecDepth 100000 in
theorem zk_m68 : zx_okL 68 zx_c68 0 := zx_okB_ok (by decide +kernel)
set_option maxRecDepth 100000 in
theorem zk_m69 : zx_okL 69 zx_c69 0 := zx_okB_ok (by decide +kernel)
set_option maxRecDepth 100000 in
theorem zk_m70 : zx_okL 70 zx_c70 0 := zx_okB_ok (by decide +kernel)
set_option maxRecDepth 100000 in
theorem zk_m71 : zx_okL 71 zx_c71 0 := zx_okB_ok (by decide +kernel)
set_option maxRecDepth 100000 in
theorem zk_m72 : zx_okL 72 zx_c72 0 := zx_okB_ok (by decide +kernel)
set_option maxRecDepth 100000 in
theorem zk_m73 : zx_okL 73 zx_c73 0 := zx_okB_ok (by decide +kernel)
set_option maxRecDepth 100000 in
theorem zk_m74 : zx_okL 74 zx_c74 0 := zx_okB_ok (by decide +kernel)
set_option maxRecDepth 100000 in
theorem zk_m75 : zx_okL 75 zx_c75 0 := zx_okB_ok (by decide +kernel)
set_option maxRecDepth 100000 in
theorem zk_m76 : zx_okL 76 zx_c76 0 := zx_okB_ok (by decide +kernel)
set_option maxRecDepth 100000 in
theorem zk_m77 : zx_okL 77 zx_c77 0 := zx_okB_ok (by decide +kernel)
set_option maxRecDepth 100000 in
theorem zk_m78 : zx_okL 78 zx_c78 0 := zx_okB_ok (by decide +kernel)
set_option maxRecDepth 100000 in
theorem zk_m79 : zx_okL 79 zx_c79 0 := zx_okB_ok (by decide +kernel)
set_option maxRecDepth 100000 in
theorem zk_m80 : zx_okL 80 zx_c80 0 := zx_okB_ok (by decide +kernel)
set_option maxRecDepth 100000 in
theorem zk_m81 : zx_okL 81 zx_c81 0 := zx_okB_ok (by decide +kernel)
set_option maxRecDepth 100000 in
theorem zk_m82 : zx_okL 82 zx_c82 0 := zx_okB_ok (by decide +kernel)
set_option maxRecDepth 100000 in
theorem zk_m83 : zx_okL 83 zx_c83 0 := zx_okB_ok (by decide +kernel)
set_option maxRecDepth 100000 in
theorem zk_m84 : zx_okL 84 zx_c84 0 := zx_okB_ok (by decide +kernel)
set_option maxRecDepth 100000 in
theorem zk_m85 : zx_okL 85 zx_c85 0 := zx_okB_ok (by decide +kernel)
set_option maxRecDepth 100000 in
theorem zk_m86 : zx_okL 86 zx_c86 0 := zx_okB_ok (by decide +kernel)
set_option maxRecDepth 100000 in
theorem zk_m87 : zx_okL 87 zx_c87 0 := zx_okB_ok (by decide +kernel)
set_option maxRecDepth 100000 in
theorem zk_m88 : zx_okL 88 zx_c88 0 := zx_okB_ok (by decide +kernel)
set_option maxRecDepth 100000 in
theorem zk_m89 : zx_okL 89 zx_c89 0 := zx_okB_ok (by decide +kernel)
set_option maxRecDepth 100000 in
theorem zk_m90 : zx_okL 90 zx_c90 0 := zx_okB_ok (by decide +kernel)
set_option maxRecDepth 100000 in
theorem zk_m91 : zx_okL 91 zx_c91 0 := zx_okB_ok (by decide +kernel)
set_option maxRecDepth 100000 in
theorem zk_m92 : zx_okL 92 zx_c92 0 := zx_okB_ok (by decide +kernel)
set_option maxRecDepth 100000 in
theorem zk_m93 : zx_okL 93 zx_c93 0 := zx_okB_ok (by decide +kernel)
set_option maxRecDepth 100000 in
theorem zk_m94 : zx_okL 94 zx_c94 0 := zx_okB_ok (by decide +kernel)
set_option maxRecDepth 100000 in
theorem zk_m95 : zx_okL 95 zx_c95 0 := zx_okB_ok (by decide +kernel)
set_option maxRecDepth 100000 in
theorem zk_m96 : zx_okL 96 zx_c96 0 := zx_okB_ok (by decide +kernel)
set_option maxRecDepth 100000 in
theorem zk_m97 : zx_okL 97 zx_c97 0 := zx_okB_ok (by decide +kernel)
set_option maxRecDepth 100000 in
theorem zk_m98 : zx_okL 98 zx_c98 0 := zx_okB_ok (by decide +kernel)
set_option maxRecDepth 100000 in
theorem zk_m99 : zx_okL 99 zx_c99 0 := zx_okB_ok (by decide +kernel)
set_option maxRecDepth 100000 in
theorem zk_m100 : zx_okL 100 zx_c100 0 := zx_okB_ok (by decide +kernel)
set_option maxRecDepth 100000 in
theorem zk_m101 : zx_okL 101 zx_c101 0 := zx_okB_ok (by decide +kernel)
set_option maxRecDepth 100000 in
theorem zk_m102 : zx_okL 102 zx_c102 0 := zx_okB_ok (by decide +kernel)
set_option maxRecDepth 100000 in
theorem zk_m103 : zx_okL 103 zx_c103 0 := zx_okB_ok (by decide +kernel)
set_option maxRecDepth 100000 in
theorem zk_m104 : zx_okL 104 zx_c104 0 := zx_okB_ok (by decide +kernel)
set_option maxRecDepth 100000 in
theorem zk_m105 : zx_okL 105 zx_c105 0 := zx_okB_ok (by decide +kernel)
set_option maxRecDepth 100000 in
theorem zk_m106 : zx_okL 106 zx_c106 0 := zx_okB_ok (by decide +kernel)
set_option maxRecDepth 100000 in
theorem zk_m107 : zx_okL 107 zx_c107 0 := zx_okB_ok (by decide +kernel)
set_option maxRecDepth 100000 in
theorem zk_m108 : zx_okL 108 zx_c108 0 := zx_okB_ok (by decide +kernel)
set_option maxRecDepth 100000 in
theorem zk_m109 : zx_okL 109 zx_c109 0 := zx_okB_ok (by decide +kernel)
set_option maxRecDepth 100000 in
theorem zk_m110 : zx_okL 110 zx_c110 0 := zx_okB_ok (by decide +kernel)
set_option maxRecDepth 100000 in
theorem zk_m111 : zx_okL 111 zx_c111 0 := zx_okB_ok (by decide +kernel)
set_option maxRecDepth 100000 in
theorem zk_m112 : zx_okL 112 zx_c112 0 := zx_okB_ok (by decide +kernel)
set_option maxRecDepth 100000 in
theorem zk_m113 : zx_okL 113 zx_c113 0 := zx_okB_ok (by decide +kernel)
set_option maxRecDepth 100000 in
theorem zk_m114 : zx_okL 114 zx_c114 0 := zx_okB_ok (by decide +kernel)
set_option maxRecDepth 100000 in
theorem zk_m115 : zx_okL 115 zx_c115 0 := zx_okB_ok (by decide +kernel)
set_option maxRecDepth 100000 in
theorem zk_m116 : zx_okL 116 zx_c116 0 := zx_okB_ok (by decide +kernel)
set_option maxRecDepth 100000 in
theorem zk_m117 : zx_okL 117 zx_c117 0 := zx_okB_ok (by decide +kernel)
set_option maxRecDepth 100000 in
theorem zk_m118 : zx_okL 118 zx_c118 0 := zx_okB_ok (by decide +kernel)
set_option maxRecDepth 100000 in
theorem zk_m119 : zx_okL 119 zx_c119 0 := zx_okB_ok (by decide +kernel)
set_option maxRecDepth 100000 in
theorem zk_m120 : zx_okL 120 zx_c120 0 := zx_okB_ok (by decide +kernel)
set_option maxRecDepth 100000 in
theorem zk_m121 : zx_okL 121 zx_c121 0 := zx_okB_ok (by decide +kernel)
set_option maxRecDepth 100000 in
theorem zk_m122 : zx_okL 122 zx_c122 0 := zx_okB_ok (by decide +kernel)
set_option maxRecDepth 100000 in
theorem zk_m123 : zx_okL 123 zx_c123 0 := zx_okB_ok (by decide +kernel)
set_option maxRecDepth 100000 in
theorem zk_m124 : zx_okL 124 zx_c124 0 := zx_okB_ok (by decide +kernel)
set_option maxRecDepth 100000 in
theorem zk_m125 : zx_okL 125 zx_c125 0 := zx_okB_ok (by decide +kernel)
set_option maxRecDepth 100000 in
theorem zk_m126 : zx_okL 126 zx_c126 0 := zx_okB_ok (by decide +kernel)
set_option maxRecDepth 100000 in
theorem zk_m127 : zx_okL 127 zx_c127 0 := zx_okB_ok (by decide +kernel)
set_option maxRecDepth 100000 in
theorem zk_m128 : zx_okL 128 zx_c128 0 := zx_okB_ok (by decide +kernel)
set_option maxRecDepth 100000 in
theorem zk_m129 : zx_okL 129 zx_c129 0 := zx_okB_ok (by decide +kernel)
set_option maxRecDepth 100000 in
theorem zk_m130 : zx_okL 130 zx_c130 0 := zx_okB_ok (by decide +kernel)
set_option maxRecDepth 100000 in
theorem zk_m131 : zx_okL 131 zx_c131 0 := zx_okB_ok (by decide +kernel)
set_option maxRecDepth 100000 in
theorem zk_m132 : zx_okL 132 zx_c132 0 := zx_okB_ok (by decide +kernel)
set_option maxRecDepth 100000 in
theorem zk_m133 : zx_okL 133 zx_c133 0 := zx_okB_ok (by decide +kernel)
set_option maxRecDepth 100000 in
theorem zk_m134 : zx_okL 134 zx_c134 0 := zx_okB_ok (by decide +kernel)
set_option maxRecDepth 100000 in
theorem zk_m135 : zx_okL 135 zx_c135 0 := zx_okB_ok (by decide +kernel)
set_option maxRecDepth 100000 in
theorem zk_m136 : zx_okL 136 zx_c136 0 := zx_okB_ok (by decide +kernel)
set_option maxRecDepth 100000 in
theorem zk_m137 : zx_okL 137 zx_c137 0 := zx_okB_ok (by decide +kernel)
set_option maxRecDepth 100000 in
theorem zk_m138 : zx_okL 138 zx_c138 0 := zx_okB_ok (by decide +kernel)
set_option maxRecDepth 100000 in
theorem zk_m139 : zx_okL 139 zx_c139 0 := zx_okB_ok (by decide +kernel)
set_option maxRecDepth 100000 in
theorem zk_m140 : zx_okL 140 zx_c140 0 := zx_okB_ok (by decide +kernel)
set_option maxRecDepth 100000 in
theorem zk_m141 : zx_okL 141 zx_c141 0 := zx_okB_ok (by decide +kernel)
set_option maxRecDepth 100000 in
theorem zk_m142 : zx_okL 142 zx_c142 0 := zx_okB_ok (by decide +kernel)
set_option maxRecDepth 100000 in
theorem zk_m143 : zx_okL 143 zx_c143 0 := zx_okB_ok (by decide +kernel)
set_option maxRecDepth 100000 in
theorem zk_m144 : zx_okL 144 zx_c144 0 := zx_okB_ok (by decide +kernel)
set_option maxRecDepth 100000 in
theorem zk_m145 : zx_okL 145 zx_c145 0 := zx_okB_ok (by decide +kernel)
set_option maxRecDepth 100000 in
theorem zk_m146 : zx_okL 146 zx_c146 0 := zx_okB_ok (by decide +kernel)
set_option maxRecDepth 100000 in
theorem zk_m147 : zx_okL 147 zx_c147 0 := zx_okB_ok (by decide +kernel)
set_option maxRecDepth 100000 in
theorem zk_m148 : zx_okL 148 zx_c148 0 := zx_okB_ok (by decide +kernel)
set_option maxRecDepth 100000 in
theorem zk_m149 : zx_okL 149 zx_c149 0 := zx_okB_ok (by decide +kernel)
set_option maxRecDepth 100000 in
theorem zk_m150 : zx_okL 150 zx_c150 0 := zx_okB_ok (by decide +kernel)
set_option maxRecDepth 100000 in
theorem zk_m151 : zx_okL 151 zx_c151 0 := zx_okB_ok (by decide +kernel)
set_option maxRecDepth 100000 in
theorem zk_m152 : zx_okL 152 zx_c152 0 := zx_okB_ok (by decide +kernel)
set_option maxRecDepth 100000 in
theorem zk_m153 : zx_okL 153 zx_c153 0 := zx_okB_ok (by decide +kernel)
set_option maxRecDepth 100000 in
theorem zk_m154 : zx_okL 154 zx_c154 0 := zx_okB_ok (by decide +kernel)
set_option maxRecDepth 100000 in
theorem zk_m155 : zx_okL 155 zx_c155 0 := zx_okB_ok (by decide +kernel)
set_option maxRecDepth 100000 in
theorem zk_m156 : zx_okL 156 zx_c156 0 := zx_okB_ok (by decide +kernel)
set_option maxRecDepth 100000 in
theorem zk_m157 : zx_okL 157 zx_c157 0 := zx_okB_ok (by decide +kernel)
set_option maxRecDepth 100000 in
theorem zk_m158 : zx_okL 158 zx_c158 0 := zx_okB_ok (by decide +kernel)
set_option maxRecDepth 100000 in
theorem zk_m159 : zx_okL 159 zx_c159 0 := zx_okB_ok (by decide +kernel)
set_option maxRecDepth 100000 in
theorem zk_m160 : zx_okL 160 zx_c160 0 := zx_okB_ok (by decide +kernel)
set_option maxRecDepth 100000 in
theorem zk_m161 : zx_okL 161 zx_c161 0 := zx_okB_ok (by decide +kernel)
set_option maxRecDepth 100000 in
theorem zk_m162 : zx_okL 162 zx_c162 0 := zx_okB_ok (by decide +kernel)
set_option maxRecDepth 100000 in
theorem zk_m163 : zx_okL 163 zx_c163 0 := zx_okB_ok (by decide +kernel)
set_option maxRecDepth 100000 in
theorem zk_m164 : zx_okL 164 zx_c164 0 := zx_okB_ok (by decide +kernel)
set_option maxRecDepth 100000 in
theorem zk_m165 : zx_okL 165 zx_c165 0 := zx_okB_ok (by decide +kernel)
set_option maxRecDepth 100000 in
theorem zk_m166 : zx_okL 166 zx_c166 0 := zx_okB_ok (by decide +kernel)
set_option maxRecDepth 100000 in
theorem zk_m167 : zx_okL 167 zx_c167 0 := zx_okB_ok (by decide +kernel)
set_option maxRecDepth 100000 in
theorem zk_m168 : zx_okL 168 zx_c168 0 := zx_okB_ok (by decide +kernel)
set_option maxRecDepth 100000 in
theorem zk_m169 : zx_okL 169 zx_c169 0 := zx_okB_ok (by decide +kernel)
set_option maxRecDepth 100000 in
theorem zk_m170 : zx_okL 170 zx_c170 0 := zx_okB_ok (by decide +kernel)
set_option maxRecDepth 100000 in
theorem zk_m171 : zx_okL 171 zx_c171 0 := zx_okB_ok (by decide +kernel)
set_option maxRecDepth 100000 in
theorem zk_m172 : zx_okL 172 zx_c172 0 := zx_okB_ok (by decide +kernel)
set_option maxRecDepth 100000 in
theorem zk_m173 : zx_okL 173 zx_c173 0 := zx_okB_ok (by decide +kernel)
set_option maxRecDepth 100000 in
theorem zk_m174 : zx_okL 174 zx_c174 0 := zx_okB_ok (by decide +kernel)
set_option maxRecDepth 100000 in
theorem zk_m175 : zx_okL 175 zx_c175 0 := zx_okB_ok (by decide +kernel)
set_option maxRecDepth 100000 in
theorem zk_m176 : zx_okL 176 zx_c176 0 := zx_okB_ok (by decide +kernel)
set_option maxRecDepth 100000 in
theorem zk_m177 : zx_okL 177 zx_c177 0 := zx_okB_ok (by decide +kernel)
set_option maxRecDepth 100000 in
theorem zk_m178 : zx_okL 178 zx_c178 0 := zx_okB_ok (by decide +kernel)
set_option maxRecDepth 100000 in
theorem zk_m179 : zx_okL 179 zx_c179 0 := zx_okB_ok (by decide +kernel)
set_option maxRecDepth 100000 in
theorem zk_m180 : zx_okL 180 zx_c180 0 := zx_okB_ok (by decide +kernel)
set_option maxRecDepth 100000 in
theorem zk_m181 : zx_okL 181 zx_c181 0 := zx_okB_ok (by decide +kernel)
set_option maxRecDepth 100000 in
theorem zk_m182 : zx_okL 182 zx_c182 0 := zx_okB_ok (by decide +kernel)
set_option maxRecDepth 100000 in
theorem zk_m183 : zx_okL 183 zx_c183 0 := zx_okB_ok (by decide +kernel)
set_option maxRecDepth 100000 in
theorem zk_m184 : zx_okL 184 zx_c184 0 := zx_okB_ok (by decide +kernel)
set_option maxRecDepth 100000 in
theorem zk_m185 : zx_okL 185 zx_c185 0 := zx_okB_ok (by decide +kernel)
set_option maxRecDepth 100000 in
theorem zk_m186 : zx_okL 186 zx_c186 0 := zx_okB_ok (by decide +kernel)
set_option maxRecDepth 100000 in
theorem zk_m187 : zx_okL 187 zx_c187 0 := zx_okB_ok (by decide +kernel)
set_option maxRecDepth 100000 in
theorem zk_m188 : zx_okL 188 zx_c188 0 := zx_okB_ok (by decide +kernel)
set_option maxRecDepth 100000 in
theorem zk_m189 : zx_okL 189 zx_c189 0 := zx_okB_ok (by decide +kernel)
set_option maxRecDepth 100000 in
theorem zk_m190 : zx_okL 190 zx_c190 0 := zx_okB_ok (by decide +kernel)
set_option maxRecDepth 100000 in
theorem zk_m191 : zx_okL 191 zx_c191 0 := zx_okB_ok (by decide +kernel)
set_option maxRecDepth 100000 in
theorem zk_m192 : zx_okL 192 zx_c192 0 := zx_okB_ok (by decide +kernel)
set_option maxRecDepth 100000 in
theorem zk_m193 : zx_okL 193 zx_c193 0 := zx_okB_ok (by decide +kernel)
set_option maxRecDepth 100000 in
theorem zk_m194 : zx_okL 194 zx_c194 0 := zx_okB_ok (by decide +kernel)
set_option maxRecDepth 100000 in
theorem zk_m195 : zx_okL 195 zx_c195 0 := zx_okB_ok (by decide +kernel)
set_option maxRecDepth 100000 in
theorem zk_m196 : zx_okL 196 zx_c196 0 := zx_okB_ok (by decide +kernel)
theorem zk_aa : zk_a := by
  have h : zx_okA zx_code 0 := ⟨zk_m0, zk_m1, zk_m2, zk_m3, zk_m4, zk_m5, zk_m6, zk_m7, zk_m8, zk_m9, zk_m10, zk_m11, zk_m12, zk_m13, zk_m14, zk_m15, zk_m16, zk_m17, zk_m18, zk_m19, zk_m20, zk_m21, zk_m22, zk_m23, zk_m24, zk_m25, zk_m26, zk_m27, zk_m28, zk_m29, zk_m30, zk_m31, zk_m32, zk_m33, zk_m34, zk_m35, zk_m36, zk_m37, zk_m38, zk_m39, zk_m40, zk_m41, zk_m42, zk_m43, zk_m44, zk_m45, zk_m46, zk_m47, zk_m48, zk_m49, zk_m50, zk_m51, zk_m52, zk_m53, zk_m54, zk_m55, zk_m56, zk_m57, zk_m58, zk_m59, zk_m60, zk_m61, zk_m62, zk_m63, zk_m64, zk_m65, zk_m66, zk_m67, zk_m68, zk_m69, zk_m70, zk_m71, zk_m72, zk_m73, zk_m74, zk_m75, zk_m76, zk_m77, zk_m78, zk_m79, zk_m80, zk_m81, zk_m82, zk_m83, zk_m84, zk_m85, zk_m86, zk_m87, zk_m88, zk_m89, zk_m90, zk_m91, zk_m92, zk_m93, zk_m94, zk_m95, zk_m96, zk_m97, zk_m98, zk_m99, zk_m100, zk_m101, zk_m102, zk_m103, zk_m104, zk_m105, zk_m106, zk_m107, zk_m108, zk_m109, zk_m110, zk_m111, zk_m112, zk_m113, zk_m114, zk_m115, zk_m116, zk_m117, zk_m118, zk_m119, zk_m120, zk_m121, zk_m122, zk_m123, zk_m124, zk_m125, zk_m126, zk_m127, zk_m128, zk_m129, zk_m130, zk_m131, zk_m132, zk_m133, zk_m134, zk_m135, zk_m136, zk_m137, zk_m138, zk_m139, zk_m140, zk_m141, zk_m142, zk_m143, zk_m144, zk_m145, zk_m146, zk_m147, zk_m148, zk_m149, zk_m150, zk_m151, zk_m152, zk_m153, zk_m154, zk_m155, zk_m156, zk_m157, zk_m158, zk_m159, zk_m160, zk_m161, zk_m162, zk_m163, zk_m164, zk_m165, zk_m166, zk_m167, zk_m168, zk_m169, zk_m170, zk_m171, zk_m172, zk_m173, zk_m174, zk_m175, zk_m176, zk_m177, zk_m178, zk_m179, zk_m180, zk_m181, zk_m182, zk_m183, zk_m184, zk_m185, zk_m186, zk_m187, zk_m188, zk_m189, zk_m190, zk_m191, zk_m192, zk_m193, zk_m194, zk_m195, zk_m196, trivial⟩
  intro k pc e he
  have z := zx_okL_at (zx_okA_at h k) pc e he
  rw [Nat.zero_add, Nat.zero_add] at z
  exact z
