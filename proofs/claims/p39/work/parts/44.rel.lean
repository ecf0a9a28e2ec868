/-! what the second executor's pictures say -/
def qy_v (ρ : List Int) (ex : Nat → Value) (as : List Nat) (a : qV) (v : Value) : Prop := match a with
  | .inl z => ∃ x : Int32, v = .int x ∧ x.toInt = z
  | .inr (.inl q) => ∃ (x : Int32) (r : Int), v = .int x ∧ ρ[q.1]? = some r ∧ x.toInt = q.2.1 * r + q.2.2
  | .inr (.inr (.inl none)) => v = .null
  | .inr (.inr (.inl (some k))) => ∃ q, as[k]? = some q ∧ v = .ref q
  | .inr (.inr (.inr (.inl j))) => v = ex j
  | .inr (.inr (.inr (.inr (.inl z)))) => ∃ x : Int64, v = .long x ∧ x.toInt = z
  | .inr (.inr (.inr (.inr (.inr (.inl s))))) => ∃ (x : Int64) (r : Int), v = .long x ∧ ρ[s]? = some r ∧ x.toInt = r
  | .inr (.inr (.inr (.inr (.inr (.inr (.inl _)))))) => ∃ x : Int32, v = .int x
  | .inr (.inr (.inr (.inr (.inr (.inr (.inr _)))))) => v = .null ∨ ∃ q, v = .ref q
def qy_s (ρ : List Int) (ex : Nat → Value) (as : List Nat) : List qV → List Value → Prop
  | [], [] => True
  | a :: r, v :: t => qy_v ρ ex as a v ∧ qy_s ρ ex as r t
  | _, _ => False
def qy_l (ρ : List Int) (ex : Nat → Value) (as : List Nat) (ls : Array Slot) (nL : Nat) (lo : qL) : Prop := ls.size = nL ∧ lv_wf ls ∧ ∀ q ∈ lo, ∃ v, ls[q.1]? = some (.val v) ∧ qy_v ρ ex as q.2 v
/-- a number may stand at a place of a typed array -/
def qy_i (sg : qS) (j : Nat) (z : Int) : Prop := q_fa z z (j % q_pd sg) (j % q_pd sg) sg 0 = true
/-- an array is a ghost, with one place written over -/
def qy_o (ρ : List Int) (ex : Nat → Value) (as : List Nat) (N : Nat) (h f : Nat → Int32) (ov : List (qV × qV)) : Prop := match ov with
  | [] => ∀ j, j < N → f j = h j
  | u :: _ => ∃ x y : Int32, qy_v ρ ex as u.1 (.int x) ∧ 0 ≤ x.toInt ∧ x.toInt < N ∧ qy_v ρ ex as u.2 (.int y) ∧ ∀ j, j < N → f j = if j = x.toInt.toNat then y else h j
def qy_e (ρ : List Int) (ex : Nat → Value) (fc : Nat → Nat → Int32) (tys : List (ClassId × FieldType)) (as : List Nat) (e : qE) (q : va_E) : Prop := match e, q with
  | .inl (t, vs), .inl (cA, n, .inl f) => t < 3 ∧ (∃ i : Nat, tys[i]? = some (cA, zx_ft t)) ∧ n = vs.length ∧ ∀ (j : Nat) (a : qV), vs[j]? = some a → qy_v ρ ex as a (.int (f j))
  | .inr (.inl (c, fs)), .inr (c', gs) => c = c' ∧ qy_s ρ ex as fs gs
  | .inr (.inr (.inl (t, N, sg, kn))), .inl (cA, n, .inl f) => t < 3 ∧ (∃ i : Nat, tys[i]? = some (cA, zx_ft t)) ∧ n = N ∧ (∀ j, j < N → qy_i sg j (f j).toInt) ∧ ∀ u ∈ kn, ∃ x : Int32, qy_v ρ ex as u.1 (.int x) ∧ 0 ≤ x.toInt ∧ x.toInt < N ∧ qy_v ρ ex as u.2 (.int (f x.toInt.toNat))
  | .inr (.inr (.inl (t, N, _, kn))), .inl (cA, n, .inr (.inl _)) => t = 3 ∧ (∃ i : Nat, tys[i]? = some (cA, .long)) ∧ n = N ∧ kn = []
  | .inr (.inr (.inr (t, N, κ, kn, ov))), .inl (cA, n, .inl f) => t < 3 ∧ (∃ i : Nat, tys[i]? = some (cA, zx_ft t)) ∧ n = N ∧ (∀ u ∈ kn, ∃ x : Int32, qy_v ρ ex as u.1 (.int x) ∧ 0 ≤ x.toInt ∧ x.toInt < N ∧ qy_v ρ ex as u.2 (.int (fc κ x.toInt.toNat))) ∧ qy_o ρ ex as N (fc κ) f ov
  | _, _ => False
def qy_w (ρ : List Int) (ex : Nat → Value) (fc : Nat → Nat → Int32) (tys : List (ClassId × FieldType)) (as : List Nat) (w : List qE) (ws : va_W) : Prop := as.length = w.length ∧ ws.length = w.length ∧ ∀ (k : Nat) (e : qE), w[k]? = some e → ∃ (q : va_E) (a : Nat), as[k]? = some a ∧ ws[k]? = some (a, q) ∧ qy_e ρ ex fc tys as e q
def qy_g (ρ : List Int) (g : qG) : Prop := g.1.length = ρ.length ∧ (∀ (i : Nat) (q : Int × Int), g.1[i]? = some q → ∃ r, ρ[i]? = some r ∧ q.1 ≤ r ∧ r ≤ q.2) ∧ ∀ f ∈ g.2, ∃ r1 r2, ρ[f.2.1]? = some r1 ∧ ρ[f.2.2.2.1]? = some r2 ∧ f.2.2.2.2 ≤ f.1 * r1 + f.2.2.1 * r2
/-- more symbols -/
def qe (ρ ρ' : List Int) : Prop := ∃ r, ρ' = ρ ++ r
theorem qe.rf {ρ : List Int} : qe ρ ρ := ⟨[], by simp⟩
theorem qe.tr {a b c : List Int} (h1 : qe a b) (h2 : qe b c) : qe a c := by
  obtain ⟨r, rfl⟩ := h1
  obtain ⟨t, rfl⟩ := h2
  exact ⟨r ++ t, by rw [List.append_assoc]⟩
theorem qe.ap {ρ : List Int} (x : Int) : qe ρ (ρ ++ [x]) := ⟨[x], rfl⟩
theorem qe.at {ρ ρ' : List Int} (h : qe ρ ρ') {i : Nat} {x : Int} (hx : ρ[i]? = some x) : ρ'[i]? = some x := by
  obtain ⟨r, rfl⟩ := h
  rw [List.getElem?_append_left (List.getElem?_eq_some_iff.mp hx).1]
  exact hx
section QY
variable {ρ ρ' : List Int} {ex : Nat → Value} {fc : Nat → Nat → Int32} {as : List Nat} {tys : List (ClassId × FieldType)}
theorem qy_v.mono (h : qe ρ ρ') {a : qV} {v : Value} (hv : qy_v ρ ex as a v) : qy_v ρ' ex as a v := by
  match a, hv with
  | .inl _, hv => exact hv
  | .inr (.inl _), ⟨x, r, h1, h2, h3⟩ => exact ⟨x, r, h1, h.at h2, h3⟩
  | .inr (.inr (.inl none)), hv => exact hv
  | .inr (.inr (.inl (some k))), hv => exact hv
  | .inr (.inr (.inr (.inl _))), hv => exact hv
  | .inr (.inr (.inr (.inr (.inl _)))), hv => exact hv
  | .inr (.inr (.inr (.inr (.inr (.inl _))))), ⟨x, r, h1, h2, h3⟩ => exact ⟨x, r, h1, h.at h2, h3⟩
  | .inr (.inr (.inr (.inr (.inr (.inr (.inl _)))))), hv => exact hv
  | .inr (.inr (.inr (.inr (.inr (.inr (.inr _)))))), hv => exact hv
theorem qy_s.mono (h : qe ρ ρ') : ∀ {st : List qV} {t : List Value}, qy_s ρ ex as st t → qy_s ρ' ex as st t
  | [], [], _ => trivial
  | _ :: _, _ :: _, ⟨h1, h2⟩ => ⟨h1.mono h, qy_s.mono h h2⟩
theorem qy_l.mono (h : qe ρ ρ') {ls : Array Slot} {nL : Nat} {lo : qL} (hl : qy_l ρ ex as ls nL lo) : qy_l ρ' ex as ls nL lo :=
  ⟨hl.1, hl.2.1, fun q hq => by obtain ⟨v, h1, h2⟩ := hl.2.2 q hq; exact ⟨v, h1, h2.mono h⟩⟩
theorem qy_o.mono (h : qe ρ ρ') {N : Nat} {g f : Nat → Int32} {ov : List (qV × qV)} (ho : qy_o ρ ex as N g f ov) : qy_o ρ' ex as N g f ov := by
  match ov, ho with
  | [], ho => exact ho
  | u :: _, ⟨x, y, h1, h2, h3, h4, h5⟩ => exact ⟨x, y, h1.mono h, h2, h3, h4.mono h, h5⟩
theorem qy_e.mono (h : qe ρ ρ') {e : qE} {q : va_E} (he : qy_e ρ ex fc tys as e q) : qy_e ρ' ex fc tys as e q := by
  match e, q, he with
  | .inl (t, vs), .inl (cA, n, .inl f), ⟨h1, h2, h3, h4⟩ => exact ⟨h1, h2, h3, fun j a ha => (h4 j a ha).mono h⟩
  | .inr (.inl (c, fs)), .inr (c', gs), ⟨h1, h2⟩ => exact ⟨h1, h2.mono h⟩
  | .inr (.inr (.inl (t, N, sg, kn))), .inl (cA, n, .inl f), ⟨h1, h2, h3, h4, h5⟩ => exact ⟨h1, h2, h3, h4, fun u hu => by obtain ⟨x, a1, a2, a3, a4⟩ := h5 u hu; exact ⟨x, a1.mono h, a2, a3, a4.mono h⟩⟩
  | .inr (.inr (.inl (t, N, sg, kn))), .inl (cA, n, .inr (.inl f)), he => exact he
  | .inr (.inr (.inr (t, N, κ, kn, ov))), .inl (cA, n, .inl f), ⟨h1, h2, h3, h4, h5⟩ => exact ⟨h1, h2, h3, fun u hu => by obtain ⟨x, a1, a2, a3, a4⟩ := h4 u hu; exact ⟨x, a1.mono h, a2, a3, a4.mono h⟩, h5.mono h⟩
theorem qy_w.mono (h : qe ρ ρ') {w : List qE} {ws : va_W} (hw : qy_w ρ ex fc tys as w ws) : qy_w ρ' ex fc tys as w ws :=
  ⟨hw.1, hw.2.1, fun k e hk => by obtain ⟨q, a, h1, h2, h3⟩ := hw.2.2 k e hk; exact ⟨q, a, h1, h2, h3.mono h⟩⟩
theorem qy_isI {a : qV} {v : Value} (h : q_isI a = true) (hv : qy_v ρ ex as a v) : ∃ x, v = .int x := by
  match a, h, hv with
  | .inl n, _, ⟨x, h1, _⟩ => exact ⟨x, h1⟩
  | .inr (.inl _), _, ⟨x, _, h1, _⟩ => exact ⟨x, h1⟩
theorem qy_isA (hex : ∀ j, ex j = .null ∨ ∃ a, ex j = .ref a) {a : qV} {v : Value} (h : q_isA a = true) (hv : qy_v ρ ex as a v) : v = .null ∨ ∃ q, v = .ref q := by
  match a, h, hv with
  | .inr (.inr (.inl none)), _, hv => exact Or.inl hv
  | .inr (.inr (.inl (some k))), _, ⟨q, _, h2⟩ => exact Or.inr ⟨q, h2⟩
  | .inr (.inr (.inr (.inl j))), _, hv => rw [show v = ex j from hv]; exact hex j
  | .inr (.inr (.inr (.inr (.inr (.inr (.inr _)))))), _, hv => exact hv
theorem qy_isL {a : qV} {v : Value} (h : q_isL a = true) (hv : qy_v ρ ex as a v) : ∃ x, v = .long x := by
  match a, h, hv with
  | .inr (.inr (.inr (.inr (.inl _)))), _, ⟨x, h1, _⟩ => exact ⟨x, h1⟩
  | .inr (.inr (.inr (.inr (.inr (.inl _))))), _, ⟨x, _, h1, _⟩ => exact ⟨x, h1⟩
theorem qy_cat (hex : ∀ j, ex j = .null ∨ ∃ a, ex j = .ref a) {a : qV} {v : Value} (hv : qy_v ρ ex as a v) : v.category = cond (q_isL a) 2 1 := by
  match a, hv with
  | .inl _, ⟨x, h, _⟩ => rw [h]; rfl
  | .inr (.inl _), ⟨x, _, h, _⟩ => rw [h]; rfl
  | .inr (.inr (.inl none)), hv => rw [show v = _ from hv]; rfl
  | .inr (.inr (.inl (some k))), ⟨q, h1, h2⟩ => rw [h2]; rfl
  | .inr (.inr (.inr (.inl j))), hv => rw [show v = ex j from hv]; rcases hex j with h | ⟨a, h⟩ <;> rw [h] <;> rfl
  | .inr (.inr (.inr (.inr (.inl _)))), ⟨x, h, _⟩ => rw [h]; rfl
  | .inr (.inr (.inr (.inr (.inr (.inl _))))), ⟨x, _, h, _⟩ => rw [h]; rfl
  | .inr (.inr (.inr (.inr (.inr (.inr (.inl _)))))), ⟨x, h⟩ => rw [h]; rfl
  | .inr (.inr (.inr (.inr (.inr (.inr (.inr _)))))), hv => rcases hv with h | ⟨q, h⟩ <;> rw [h] <;> rfl
theorem qy_dep (hex : ∀ j, ex j = .null ∨ ∃ a, ex j = .ref a) : ∀ {st : List qV} {t : List Value}, qy_s ρ ex as st t → (t.map fun v => v.category).sum = q_dep st
  | [], [], _ => rfl
  | a :: r, v :: t, ⟨h1, h2⟩ => by
    show v.category + (t.map fun v => v.category).sum = cond (q_isL a) 2 1 + q_dep r
    rw [qy_cat hex h1, qy_dep hex h2]
theorem qy_s.at : ∀ {st : List qV} {t : List Value}, qy_s ρ ex as st t → ∀ (j : Nat) (a : qV), st[j]? = some a → ∃ v, t[j]? = some v ∧ qy_v ρ ex as a v
  | a :: r, v :: t, ⟨h1, h2⟩, 0, b, hb => ⟨v, rfl, by cases hb; exact h1⟩
  | a :: r, v :: t, ⟨h1, h2⟩, j + 1, b, hb => qy_s.at h2 j b hb
theorem qy_s.len : ∀ {st : List qV} {t : List Value}, qy_s ρ ex as st t → t.length = st.length
  | [], [], _ => rfl
  | _ :: _, _ :: _, ⟨_, h2⟩ => by rw [List.length_cons, List.length_cons, qy_s.len h2]
theorem qy_s.set : ∀ {st : List qV} {t : List Value}, qy_s ρ ex as st t → ∀ (j : Nat) {a : qV} {v : Value}, qy_v ρ ex as a v → qy_s ρ ex as (st.set j a) (t.set j v)
  | [], [], _, _, _, _, _ => trivial
  | _ :: _, _ :: _, ⟨_, h2⟩, 0, _, _, hv => ⟨hv, h2⟩
  | _ :: _, _ :: _, ⟨h1, h2⟩, j + 1, _, _, hv => ⟨h1, qy_s.set h2 j hv⟩
end QY
/-! the executor's own words -/
theorem q_le_iff {x y : Int} : q_le x y = true ↔ x ≤ y := by
  unfold q_le
  have e : Int.sub y x = y - x := rfl
  rw [e]
  cases h : y - x with
  | ofNat n => simp only [Int.ofNat_eq_natCast] at h; constructor <;> intro _ <;> first | omega | rfl
  | negSucc n => constructor <;> intro q <;> first | cases q | omega
theorem q_le_no {x y : Int} (h : q_le x y = false) : y < x := by
  rcases Int.lt_or_le y x with z | z
  · exact z
  · rw [q_le_iff.mpr z] at h; cases h
theorem q_eq_iff {x y : Int} : q_eq x y = true ↔ x = y := by
  unfold q_eq
  rw [Bool.and_eq_true_iff, q_le_iff, q_le_iff]
  omega
theorem q_eq_no {x y : Int} (h : q_eq x y = false) : x ≠ y := by
  intro z
  rw [q_eq_iff.mpr z] at h; cases h
theorem q_in_iff {lo hi : Int} : q_in lo hi = true ↔ -2147483648 ≤ lo ∧ hi ≤ 2147483647 := by
  unfold q_in
  rw [Bool.and_eq_true_iff, q_le_iff, q_le_iff]
  exact Iff.rfl
theorem q_mxi_eq (a b : Int) : q_mxi a b = max a b := by
  unfold q_mxi
  cases h : q_le a b with
  | true => have := q_le_iff.mp h; show b = _; omega
  | false => have := q_le_no h; show a = _; omega
theorem q_mni_eq (a b : Int) : q_mni a b = min a b := by
  unfold q_mni
  cases h : q_le a b with
  | true => have := q_le_iff.mp h; show a = _; omega
  | false => have := q_le_no h; show b = _; omega
theorem q_cond {b : Bool} {x : qR} {o : List qO} (h : cond b x none = some o) : b = true ∧ x = some o := by
  cases b with
  | true => exact ⟨rfl, h⟩
  | false => cases h
theorem q_if {b : Bool} {x y : qR} {o : List qO} (h : cond b x y = some o) : (b = true ∧ x = some o) ∨ (b = false ∧ y = some o) := by
  cases b with
  | true => exact Or.inl ⟨rfl, h⟩
  | false => exact Or.inr ⟨rfl, h⟩
theorem q_get_ok {k : qV → qR} {i : Nat} {o : List qO} : ∀ {l : qL}, q_get l i k = some o → ∃ v, (i, v) ∈ l ∧ k v = some o
  | [], h => by cases h
  | q :: r, h => by
    have h : cond (Nat.beq q.1 i) (k q.2) (q_get r i k) = some o := h
    rcases q_if h with ⟨hb, h3⟩ | ⟨hb, h3⟩
    · have e := Nat.eq_of_beq_eq_true hb
      exact ⟨q.2, by rw [← e]; exact List.mem_cons_self, h3⟩
    · obtain ⟨v, h1, h2⟩ := q_get_ok (l := r) h3
      exact ⟨v, List.mem_cons_of_mem _ h1, h2⟩
theorem q_fil_eq (bad : Nat × qV → Bool) : ∀ (l : qL) (k : qL → qR), q_fil bad l k = k (l.filter fun q => !bad q)
  | [], k => rfl
  | q :: r, k => by
    show cond (bad q) (q_fil bad r k) (q_fil bad r fun t => k (q :: t)) = _
    cases hb : bad q with
    | true => rw [List.filter_cons_of_neg (by simp [hb])]; exact q_fil_eq bad r k
    | false => rw [List.filter_cons_of_pos (by simp [hb])]; exact q_fil_eq bad r _
theorem q_at_ok {α : Type} {k : α → qR} {o : List qO} : ∀ {l : List α} {i : Nat}, q_at l k i = some o → ∃ x, l[i]? = some x ∧ k x = some o
  | [], i, h => by cases h
  | x :: t, 0, h => ⟨x, rfl, h⟩
  | x :: t, i + 1, h => by
    obtain ⟨y, h1, h2⟩ := q_at_ok (l := t) (i := i) h
    exact ⟨y, h1, h2⟩
theorem q_set_ok {α : Type} {v : α} {o : List qO} : ∀ {l : List α} {i : Nat} {k : List α → qR}, q_set v l i k = some o → i < l.length ∧ k (l.set i v) = some o
  | [], i, k, h => by cases h
  | x :: t, 0, k, h => ⟨Nat.succ_pos _, h⟩
  | x :: t, i + 1, k, h => by
    obtain ⟨h1, h2⟩ := q_set_ok (l := t) (i := i) (k := fun r => k (x :: r)) h
    exact ⟨Nat.succ_lt_succ h1, h2⟩
theorem q_snoc_eq {α : Type} (v : α) : ∀ (l : List α) (k : List α → qR), q_snoc v l k = k (l ++ [v])
  | [], k => rfl
  | x :: t, k => q_snoc_eq v t fun r => k (x :: r)
theorem q_app_ok {x y : qR} {o : List qO} (h : q_app x y = some o) : ∃ l m, x = some l ∧ y = some m ∧ (∀ z ∈ l, z ∈ o) ∧ ∀ z ∈ m, z ∈ o := by
  unfold q_app at h
  cases x with
  | none => cases h
  | some l =>
    cases y with
    | none => cases h
    | some m =>
      cases h
      exact ⟨l, m, rfl, rfl, fun z hz => List.mem_append_left _ hz, fun z hz => List.mem_append_right _ hz⟩
