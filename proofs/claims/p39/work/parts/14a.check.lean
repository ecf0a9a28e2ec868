/-! the tables are checked, by program (wip/p1/gen2.py) -/
def zy_dv (a : zx_V) : Value := match a with
  | .inl n => .int (Int32.ofNat n)
  | .inr (.inr (.inl n)) => .long (Int64.ofNat n)
  | _ => .null
def zx_isD (a : zx_V) : Bool := match a with
  | .inl _ => true
  | .inr (.inl none) => true
  | .inr (.inr (.inl _)) => true
  | _ => false
theorem zy_dvs {ρ : Nat → Int32} {ex : Nat → Value} {as : List Nat} : ∀ {l : List zx_V}, l.all zx_isD = true → zy_s ρ ex as l (l.map zy_dv)
  | [], _ => trivial
  | a :: r, h => by
    obtain ⟨h1, h2⟩ := Bool.and_eq_true_iff.mp (show (zx_isD a && r.all zx_isD) = true from h)
    refine ⟨?_, zy_dvs h2⟩
    match a, h1 with
    | .inl _, _ => exact rfl
    | .inr (.inl none), _ => exact rfl
    | .inr (.inr (.inl _)), _ => exact rfl
theorem zk_one {ci : Nat} {C : String} {T : u_T} {N : Nat} {ty : Nat → FieldType} (ps : List Nat) (hc : zx_cl[ci]? = some (C, T, N)) (h1 : u_ws C T N = ps.filterMap (fun i => lw_tbl[i]?)) (h2 : (u_ws C T N).all goodWord = true) (h3 : ∀ a, a < N → ∀ b, b < N → a ≠ b → (T a).2.1 ≠ (T b).2.1) (h4 : ∀ j, j < N → parseFieldDescriptor (T j).2.2.1 = some (ty j)) (h5 : ∀ j, j < N → defaultValue (ty j) = vp_V ((zx_dfl.getD ci []).map zy_dv) j) (h6 : (zx_dfl.getD ci []).all zx_isD = true) : zk_cl ci := by
  intro C' T' N' hc'
  rw [hc] at hc'
  cases hc'
  refine ⟨fun w hw => ?_, h3, ty, h4, _, h5, fun ρ ex as => zy_dvs h6⟩
  have g := List.all_eq_true.mp h2 w hw
  rw [h1] at hw
  obtain ⟨i, -, hi⟩ := List.mem_filterMap.mp hw
  exact List.mem_filter.mpr ⟨List.mem_of_getElem? hi, g⟩
set_option maxRecDepth 100000 in
theorem zk_c0 : zk_cl 0 := zk_one (C := "DeckChairs$Duel") (T := zx_T0) (N := 4) (ty := zx_y0) [530, 532, 534, 536] rfl (by decide +kernel) (by decide +kernel) (by decide +kernel) (by decide +kernel) (by decide +kernel) (by decide +kernel)
set_option maxRecDepth 100000 in
theorem zk_c1 : zk_cl 1 := zk_one (C := "DeckChairs$Formula") (T := zx_T1) (N := 7) (ty := zx_y1) [288, 290, 292, 294, 296, 298, 300] rfl (by decide +kernel) (by decide +kernel) (by decide +kernel) (by decide +kernel) (by decide +kernel) (by decide +kernel)
set_option maxRecDepth 100000 in
theorem zk_c2 : zk_cl 2 := zk_one (C := "DeckChairs$Guesses") (T := zx_T2) (N := 11) (ty := zx_y2) [558, 560, 562, 564, 566, 568, 570, 572, 574, 576, 578] rfl (by decide +kernel) (by decide +kernel) (by decide +kernel) (by decide +kernel) (by decide +kernel) (by decide +kernel)
set_option maxRecDepth 100000 in
theorem zk_c3 : zk_cl 3 := zk_one (C := "DeckChairs$Hinge") (T := zx_T3) (N := 2) (ty := zx_y3) [471, 473] rfl (by decide +kernel) (by decide +kernel) (by decide +kernel) (by decide +kernel) (by decide +kernel) (by decide +kernel)
set_option maxRecDepth 100000 in
theorem zk_c4 : zk_cl 4 := zk_one (C := "DeckChairs$Parser") (T := zx_T4) (N := 6) (ty := zx_y4) [253, 255, 257, 259, 261, 263] rfl (by decide +kernel) (by decide +kernel) (by decide +kernel) (by decide +kernel) (by decide +kernel) (by decide +kernel)
set_option maxRecDepth 100000 in
theorem zk_c5 : zk_cl 5 := zk_one (C := "DeckChairs$Past") (T := zx_T5) (N := 3) (ty := zx_y5) [438, 440, 442] rfl (by decide +kernel) (by decide +kernel) (by decide +kernel) (by decide +kernel) (by decide +kernel) (by decide +kernel)
set_option maxRecDepth 100000 in
theorem zk_c6 : zk_cl 6 := zk_one (C := "DeckChairs$Scene") (T := zx_T6) (N := 9) (ty := zx_y6) [395, 397, 399, 401, 403, 405, 407, 409, 411] rfl (by decide +kernel) (by decide +kernel) (by decide +kernel) (by decide +kernel) (by decide +kernel) (by decide +kernel)
set_option maxRecDepth 100000 in
theorem zk_c7 : zk_cl 7 := zk_one (C := "DeckChairs$Seater") (T := zx_T7) (N := 11) (ty := zx_y7) [495, 497, 499, 501, 503, 505, 507, 509, 511, 513, 515] rfl (by decide +kernel) (by decide +kernel) (by decide +kernel) (by decide +kernel) (by decide +kernel) (by decide +kernel)
set_option maxRecDepth 100000 in
theorem zk_c8 : zk_cl 8 := zk_one (C := "DeckChairs$Shelf") (T := zx_T8) (N := 1) (ty := zx_y8) [430] rfl (by decide +kernel) (by decide +kernel) (by decide +kernel) (by decide +kernel) (by decide +kernel) (by decide +kernel)
set_option maxRecDepth 100000 in
theorem zk_c9 : zk_cl 9 := zk_one (C := "DeckChairs$Tokens") (T := zx_T9) (N := 8) (ty := zx_y9) [225, 227, 229, 231, 233, 235, 237, 239] rfl (by decide +kernel) (by decide +kernel) (by decide +kernel) (by decide +kernel) (by decide +kernel) (by decide +kernel)
set_option maxRecDepth 100000 in
theorem zk_c10 : zk_cl 10 := zk_one (C := "DeckChairs$Told") (T := zx_T10) (N := 13) (ty := zx_y10) [344, 346, 348, 350, 352, 354, 356, 358, 360, 362, 364, 366, 368] rfl (by decide +kernel) (by decide +kernel) (by decide +kernel) (by decide +kernel) (by decide +kernel) (by decide +kernel)
set_option maxRecDepth 100000 in
theorem zk_c11 : zk_cl 11 := zk_one (C := "DeckChairs") (T := zx_T11) (N := 16) (ty := zx_y11) [646, 648, 650, 652, 654, 656, 658, 660, 662, 664, 666, 668, 670, 672, 674, 676] rfl (by decide +kernel) (by decide +kernel) (by decide +kernel) (by decide +kernel) (by decide +kernel) (by decide +kernel)
set_option maxRecDepth 100000 in
theorem zk_c12 : zk_cl 12 := zk_one (C := "DeckChairsModel") (T := zx_T12) (N := 60) (ty := zx_y12) [1445, 1447, 1449, 1451, 1453, 1455, 1457, 1459, 1461, 1463, 1465, 1467, 1469, 1471, 1473, 1475, 1477, 1479, 1481, 1483, 1485, 1487, 1489, 1491, 1493, 1495, 1497, 1499, 1501, 1503, 1505, 1507, 1509, 1511, 1513, 1515, 1517, 1519, 1521, 1523, 1525, 1527, 1529, 1531, 1533, 1535, 1537, 1539, 1541, 1543, 1545, 1547, 1549, 1551, 1553, 1555, 1557, 1559, 1561, 1563] rfl (by decide +kernel) (by decide +kernel) (by decide +kernel) (by decide +kernel) (by decide +kernel) (by decide +kernel)
theorem zk_cls : ∀ ci C T N, zx_cl[ci]? = some (C, T, N) → zk_cl ci := by
  intro ci C T N h
  match ci, h with
  | 0, _ => exact zk_c0
  | 1, _ => exact zk_c1
  | 2, _ => exact zk_c2
  | 3, _ => exact zk_c3
  | 4, _ => exact zk_c4
  | 5, _ => exact zk_c5
  | 6, _ => exact zk_c6
  | 7, _ => exact zk_c7
  | 8, _ => exact zk_c8
  | 9, _ => exact zk_c9
  | 10, _ => exact zk_c10
  | 11, _ => exact zk_c11
  | 12, _ => exact zk_c12
  | n + 13, h => cases h
theorem zk_tt : zk_t := ⟨zk_cls, zx_w_ok (i := 244) (by decide +kernel), zx_w_ok (i := 242) (by decide +kernel), zx_w_ok (i := 476) (by decide +kernel), zx_w_ok (i := 243) (by decide +kernel), zx_w_ok (i := 143) (by decide +kernel), zx_w_ok (i := 144) (by decide +kernel), zx_w_ok (i := 603) (by decide +kernel), zx_w_ok (i := 602) (by decide +kernel), zx_w_ok (i := 133) (by decide +kernel)⟩
def zx_okL (k : Nat) : List zx_RI → Nat → Prop
  | [], _ => True
  | e :: r, pc => zx_ok k pc e = true ∧ zx_okL k r (pc + 1)
theorem zx_okL_at {k : Nat} : ∀ {l : List zx_RI} {n : Nat}, zx_okL k l n → ∀ (i : Nat) (e : zx_RI), l[i]? = some e → zx_ok k (n + i) e = true
  | a :: r, n, ⟨h1, h2⟩, 0, e, he => by cases he; exact h1
  | a :: r, n, ⟨h1, h2⟩, i + 1, e, he => by
    have z := zx_okL_at h2 i e he
    rw [show n + (i + 1) = n + 1 + i by omega]
    exact z
noncomputable def zx_okB (k : Nat) (l : List zx_RI) : Nat → Bool := List.rec (motive := fun _ => Nat → Bool) (fun _ => true) (fun e _ ih pc => zx_n pc fun pc => cond (zx_ok k pc e) (ih (Nat.succ pc)) false) l
theorem zx_okB_ok {k : Nat} : ∀ {l : List zx_RI} {n : Nat}, zx_okB k l n = true → zx_okL k l n
  | [], _, _ => trivial
  | e :: r, n, h => by
    have h : zx_n n (fun pc => cond (zx_ok k pc e) (zx_okB k r (Nat.succ pc)) false) = true := h
    rw [zx_n_eq] at h
    cases hb : zx_ok k n e with
    | false => rw [hb] at h; cases h
    | true => rw [hb] at h; exact ⟨hb, zx_okB_ok h⟩
def zx_okA : List (List zx_RI) → Nat → Prop
  | [], _ => True
  | c :: r, k => zx_okL k c 0 ∧ zx_okA r (k + 1)
theorem zx_okA_at : ∀ {l : List (List zx_RI)} {n : Nat}, zx_okA l n → ∀ i, zx_okL (n + i) (l.getD i []) 0
  | [], n, _, i => by simp [zx_okL]
  | c :: r, n, ⟨h1, h2⟩, 0 => h1
  | c :: r, n, ⟨h1, h2⟩, i + 1 => by
    have z := zx_okA_at h2 i
    rw [show n + (i + 1) = n + 1 + i by omega]
    exact z
theorem zx_okL_ap {k : Nat} : ∀ {a b : List zx_RI} {n m : Nat}, zx_okL k a n → n + a.length = m → zx_okL k b m → zx_okL k (a ++ b) n
  | [], b, n, m, _, h, h2 => by
    have e : n = m := by simpa using h
    subst e
    exact h2
  | x :: a, b, n, m, ⟨h0, h1⟩, h, h2 => ⟨h0, zx_okL_ap h1 (by rw [List.length_cons] at h; omega) h2⟩
