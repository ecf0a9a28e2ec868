/-! what the picture says of the heap -/
def zx_ft (t : Nat) : FieldType := match t with
  | 0 => .int
  | 1 => .byte
  | 2 => .boolean
  | _ => .long
def zy_v (ρ : Nat → Int32) (ex : Nat → Value) (as : List Nat) (a : zx_V) (v : Value) : Prop := match a with
  | .inl n => v = .int (Int32.ofNat n)
  | .inr (.inl none) => v = .null
  | .inr (.inl (some k)) => ∃ q, as[k]? = some q ∧ v = .ref q
  | .inr (.inr (.inl n)) => v = .long (Int64.ofNat n)
  | .inr (.inr (.inr (.inl i))) => v = .int (ρ i)
  | .inr (.inr (.inr (.inr (.inl j)))) => v = ex j
  | .inr (.inr (.inr (.inr (.inr _)))) => ∃ x, v = .int x
def zy_s (ρ : Nat → Int32) (ex : Nat → Value) (as : List Nat) : List zx_V → List Value → Prop
  | [], [] => True
  | a :: r, v :: t => zy_v ρ ex as a v ∧ zy_s ρ ex as r t
  | _, _ => False
def zy_l (ρ : Nat → Int32) (ex : Nat → Value) (as : List Nat) (ls : Array Slot) (nL : Nat) (lo : zx_L) : Prop := ls.size = nL ∧ lv_wf ls ∧ ∀ q ∈ lo, ∃ v, ls[q.1]? = some (.val v) ∧ zy_v ρ ex as q.2 v
def zy_e (ρ : Nat → Int32) (ex : Nat → Value) (tys : List (ClassId × FieldType)) (as : List Nat) (e : zx_E) (q : va_E) : Prop := match e, q with
  | .inl (t, vs), .inl (cA, n, .inl f) => t < 3 ∧ (∃ i : Nat, tys[i]? = some (cA, zx_ft t)) ∧ n = vs.length ∧ ∀ (j : Nat) (a : zx_V), vs[j]? = some a → zy_v ρ ex as a (.int (f j))
  | .inl (t, vs), .inl (cA, n, .inr (.inl f)) => t = 3 ∧ (∃ i : Nat, tys[i]? = some (cA, .long)) ∧ n = vs.length ∧ ∀ (j : Nat) (a : zx_V), vs[j]? = some a → zy_v ρ ex as a (.long (f j))
  | .inr (c, fs), .inr (c', gs) => c = c' ∧ zy_s ρ ex as fs gs
  | _, _ => False
def zy_w (ρ : Nat → Int32) (ex : Nat → Value) (tys : List (ClassId × FieldType)) (as : List Nat) (w : zx_Wd) (ws : va_W) : Prop := as.length = w.length ∧ ws.length = w.length ∧ ∀ (k : Nat) (e : zx_E), w[k]? = some e → ∃ (q : va_E) (a : Nat), as[k]? = some a ∧ ws[k]? = some (a, q) ∧ zy_e ρ ex tys as e q
def zy_g (ρ : Nat → Int32) (g : zx_G) : Prop := ∀ (i : Nat) (q : Int × Int), g[i]? = some q → q.1 ≤ (ρ i).toInt ∧ (ρ i).toInt ≤ q.2
/-- one list of addresses goes on from another -/
def zy_p (as bs : List Nat) : Prop := ∀ (k q : Nat), as[k]? = some q → bs[k]? = some q
theorem zy_p.rf {as : List Nat} : zy_p as as := fun _ _ h => h
theorem zy_p.tr {as bs cs : List Nat} (h1 : zy_p as bs) (h2 : zy_p bs cs) : zy_p as cs := fun k q h => h2 k q (h1 k q h)
theorem zy_p.ap {as : List Nat} (q : Nat) : zy_p as (as ++ [q]) := by
  intro k x h
  have hk : k < as.length := (List.getElem?_eq_some_iff.mp h).1
  rw [List.getElem?_append_left hk]
  exact h
section ZY
variable {ρ : Nat → Int32} {ex : Nat → Value} {as bs : List Nat} {tys tys2 : List (ClassId × FieldType)}
theorem zy_v.mono (h : zy_p as bs) {a : zx_V} {v : Value} (hv : zy_v ρ ex as a v) : zy_v ρ ex bs a v := by
  match a, hv with
  | .inl _, hv => exact hv
  | .inr (.inl none), hv => exact hv
  | .inr (.inl (some k)), ⟨q, h1, h2⟩ => exact ⟨q, h _ _ h1, h2⟩
  | .inr (.inr (.inl _)), hv => exact hv
  | .inr (.inr (.inr (.inl _))), hv => exact hv
  | .inr (.inr (.inr (.inr (.inl _)))), hv => exact hv
  | .inr (.inr (.inr (.inr (.inr _)))), hv => exact hv
theorem zy_s.mono (h : zy_p as bs) : ∀ {st : List zx_V} {t : List Value}, zy_s ρ ex as st t → zy_s ρ ex bs st t
  | [], [], _ => trivial
  | _ :: _, _ :: _, ⟨h1, h2⟩ => ⟨h1.mono h, zy_s.mono h h2⟩
theorem zy_l.mono (h : zy_p as bs) {ls : Array Slot} {nL : Nat} {lo : zx_L} (hl : zy_l ρ ex as ls nL lo) : zy_l ρ ex bs ls nL lo :=
  ⟨hl.1, hl.2.1, fun q hq => by obtain ⟨v, h1, h2⟩ := hl.2.2 q hq; exact ⟨v, h1, h2.mono h⟩⟩
theorem zy_e.mono (h : zy_p as bs) (ht : ∀ (i : Nat) (q : ClassId × FieldType), tys[i]? = some q → ∃ j : Nat, tys2[j]? = some q) {e : zx_E} {q : va_E} (he : zy_e ρ ex tys as e q) : zy_e ρ ex tys2 bs e q := by
  match e, q, he with
  | .inl (t, vs), .inl (cA, n, .inl f), ⟨h1, ⟨i, h2⟩, h3, h4⟩ => exact ⟨h1, ht i _ h2, h3, fun j a ha => (h4 j a ha).mono h⟩
  | .inl (t, vs), .inl (cA, n, .inr (.inl f)), ⟨h1, ⟨i, h2⟩, h3, h4⟩ => exact ⟨h1, ht i _ h2, h3, fun j a ha => (h4 j a ha).mono h⟩
  | .inr (c, fs), .inr (c', gs), ⟨h1, h2⟩ => exact ⟨h1, h2.mono h⟩
theorem zy_isI {a : zx_V} {v : Value} (h : zx_isI a = true) (hv : zy_v ρ ex as a v) : ∃ x, v = .int x := by
  match a, h, hv with
  | .inl n, _, hv => exact ⟨_, hv⟩
  | .inr (.inr (.inr (.inl i))), _, hv => exact ⟨_, hv⟩
  | .inr (.inr (.inr (.inr (.inr _)))), _, hv => exact hv
theorem zy_isA (hex : ∀ j, ex j = .null ∨ ∃ a, ex j = .ref a) {a : zx_V} {v : Value} (h : zx_isA a = true) (hv : zy_v ρ ex as a v) : v = .null ∨ ∃ q, v = .ref q := by
  match a, h, hv with
  | .inr (.inl none), _, hv => exact Or.inl hv
  | .inr (.inl (some k)), _, ⟨q, _, h2⟩ => exact Or.inr ⟨q, h2⟩
  | .inr (.inr (.inr (.inr (.inl j)))), _, hv => rw [show v = ex j from hv]; exact hex j
theorem zy_isL {a : zx_V} {v : Value} (h : zx_isL a = true) (hv : zy_v ρ ex as a v) : ∃ x, v = .long x := by
  match a, h, hv with
  | .inr (.inr (.inl n)), _, hv => exact ⟨_, hv⟩
theorem zy_cat (hex : ∀ j, ex j = .null ∨ ∃ a, ex j = .ref a) {a : zx_V} {v : Value} (hv : zy_v ρ ex as a v) : v.category = cond (zx_isL a) 2 1 := by
  match a, hv with
  | .inl _, hv => rw [show v = _ from hv]; rfl
  | .inr (.inl none), hv => rw [show v = _ from hv]; rfl
  | .inr (.inl (some k)), ⟨q, h1, h2⟩ => rw [h2]; rfl
  | .inr (.inr (.inl _)), hv => rw [show v = _ from hv]; rfl
  | .inr (.inr (.inr (.inl _))), hv => rw [show v = _ from hv]; rfl
  | .inr (.inr (.inr (.inr (.inl j)))), hv => rw [show v = ex j from hv]; rcases hex j with h | ⟨a, h⟩ <;> rw [h] <;> rfl
  | .inr (.inr (.inr (.inr (.inr _)))), ⟨x, hv⟩ => rw [hv]; rfl
theorem zy_dep (hex : ∀ j, ex j = .null ∨ ∃ a, ex j = .ref a) : ∀ {st : List zx_V} {t : List Value}, zy_s ρ ex as st t → (t.map fun v => v.category).sum = zx_dep st
  | [], [], _ => rfl
  | a :: r, v :: t, ⟨h1, h2⟩ => by
    show v.category + (t.map fun v => v.category).sum = cond (zx_isL a) 2 1 + zx_dep r
    rw [zy_cat hex h1, zy_dep hex h2]
theorem zy_s.at : ∀ {st : List zx_V} {t : List Value}, zy_s ρ ex as st t → ∀ (j : Nat) (a : zx_V), st[j]? = some a → ∃ v, t[j]? = some v ∧ zy_v ρ ex as a v
  | a :: r, v :: t, ⟨h1, h2⟩, 0, b, hb => ⟨v, rfl, by cases hb; exact h1⟩
  | a :: r, v :: t, ⟨h1, h2⟩, j + 1, b, hb => zy_s.at h2 j b hb
theorem zy_s.len : ∀ {st : List zx_V} {t : List Value}, zy_s ρ ex as st t → t.length = st.length
  | [], [], _ => rfl
  | _ :: _, _ :: _, ⟨_, h2⟩ => by rw [List.length_cons, List.length_cons, zy_s.len h2]
theorem zy_s.set : ∀ {st : List zx_V} {t : List Value}, zy_s ρ ex as st t → ∀ (j : Nat) {a : zx_V} {v : Value}, zy_v ρ ex as a v → zy_s ρ ex as (st.set j a) (t.set j v)
  | [], [], _, _, _, _, _ => trivial
  | _ :: _, _ :: _, ⟨_, h2⟩, 0, _, _, hv => ⟨hv, h2⟩
  | _ :: _, _ :: _, ⟨h1, h2⟩, j + 1, _, _, hv => ⟨h1, zy_s.set h2 j hv⟩
end ZY
/-! the executor's own words -/
theorem zx_n_eq {α : Type} (n : Nat) (f : Nat → α) : zx_n n f = f n := by cases n <;> rfl
theorem zx_i_eq {α : Type} (x : Int) (f : Int → α) : zx_i x f = f x := by
  cases x with
  | ofNat n => show zx_n n (fun n => f (Int.ofNat n)) = _; rw [zx_n_eq]
  | negSucc n => show zx_n n (fun n => f (Int.negSucc n)) = _; rw [zx_n_eq]
theorem zx_get_ok {k : zx_V → zx_R} {i : Nat} {o : List zx_O} : ∀ {l : zx_L}, zx_get l i k = some o → ∃ v, (i, v) ∈ l ∧ k v = some o
  | [], h => by cases h
  | q :: r, h => by
    have h : cond (Nat.beq q.1 i) (k q.2) (zx_get r i k) = some o := h
    cases hb : Nat.beq q.1 i with
    | true =>
      rw [hb] at h
      have e := Nat.eq_of_beq_eq_true hb
      subst e
      exact ⟨q.2, List.mem_cons_self, h⟩
    | false =>
      rw [hb] at h
      obtain ⟨v, h1, h2⟩ := zx_get_ok (l := r) h
      exact ⟨v, List.mem_cons_of_mem _ h1, h2⟩
theorem zx_fil_eq (bad : Nat × zx_V → Bool) : ∀ (l : zx_L) (k : zx_L → zx_R), zx_fil bad l k = k (l.filter fun q => !bad q)
  | [], k => rfl
  | q :: r, k => by
    show cond (bad q) (zx_fil bad r k) (zx_fil bad r fun t => k (q :: t)) = _
    cases hb : bad q with
    | true => rw [List.filter_cons_of_neg (by simp [hb])]; exact zx_fil_eq bad r k
    | false => rw [List.filter_cons_of_pos (by simp [hb])]; exact zx_fil_eq bad r _
theorem zx_at_ok {α : Type} {k : α → zx_R} {o : List zx_O} : ∀ {l : List α} {i : Nat}, zx_at l k i = some o → ∃ x, l[i]? = some x ∧ k x = some o
  | [], i, h => by cases h
  | x :: t, 0, h => ⟨x, rfl, h⟩
  | x :: t, i + 1, h => by
    obtain ⟨y, h1, h2⟩ := zx_at_ok (l := t) (i := i) h
    exact ⟨y, h1, h2⟩
theorem zx_set_ok {α : Type} {v : α} {o : List zx_O} : ∀ {l : List α} {i : Nat} {k : List α → zx_R}, zx_set v l i k = some o → i < l.length ∧ k (l.set i v) = some o
  | [], i, k, h => by cases h
  | x :: t, 0, k, h => ⟨Nat.succ_pos _, h⟩
  | x :: t, i + 1, k, h => by
    obtain ⟨h1, h2⟩ := zx_set_ok (l := t) (i := i) (k := fun r => k (x :: r)) h
    exact ⟨Nat.succ_lt_succ h1, h2⟩
theorem zx_snoc_eq {α : Type} (v : α) : ∀ (l : List α) (k : List α → zx_R), zx_snoc v l k = k (l ++ [v])
  | [], k => rfl
  | x :: t, k => zx_snoc_eq v t fun r => k (x :: r)
theorem zx_len_eq {α : Type} : ∀ (l : List α), zx_len l = l.length
  | [] => rfl
  | x :: t => by show Nat.succ (zx_len t) = _; rw [zx_len_eq t]; rfl
theorem zx_cond {b : Bool} {x : zx_R} {o : List zx_O} (h : cond b x none = some o) : b = true ∧ x = some o := by
  cases b with
  | true => exact ⟨rfl, h⟩
  | false => cases h
