/-! the rule is read: the pile of signs and the program so far -/
/-- one place of one ghost written over -/
def q_up (fc : Nat → Nat → Int32) (κ i : Nat) (y : Int32) : Nat → Nat → Int32 := fun κ' j => if κ' = κ ∧ j = i then y else fc κ' j
theorem q_up_at {fc : Nat → Nat → Int32} {κ i : Nat} {y : Int32} : q_up fc κ i y κ i = y := by unfold q_up; rw [if_pos ⟨rfl, rfl⟩]
theorem q_up_ne {fc : Nat → Nat → Int32} {κ i j : Nat} {y : Int32} (h : j ≠ i) : q_up fc κ i y κ j = fc κ j := by unfold q_up; rw [if_neg (fun z => h z.2)]
theorem q_up_k {fc : Nat → Nat → Int32} {κ κ' i j : Nat} {y : Int32} (h : κ' ≠ κ) : q_up fc κ i y κ' j = fc κ' j := by unfold q_up; rw [if_neg (fun z => h z.1)]
def hj_b (y : Int) : Prop := (37 ≤ y ∧ y ≤ 62) ∨ y = 124
/-- an entry of the pile: what, sign -/
def hj_e (x y : Int) : Prop := (x = 3 ∧ y = 126) ∨ x = 7 ∨ ((x = 1 ∨ x = 2 ∨ x = 4 ∨ x = 5 ∨ x = 6) ∧ hj_b y)
/-- how many NOTs and brackets there are in the pile -/
def hj_t (X : Nat → Int32) : Nat → Nat
  | 0 => 0
  | i + 1 => hj_t X i + (if 0 < i ∧ ((X i).toInt = 3 ∨ (X i).toInt = 7) then 1 else 0)
/-- the pile has N entries (T of them NOTs or brackets, B two-sided signs), the program has M steps, U units were met -/
def hj_J (fc C0 : Nat → Nat → Int32) (a : Nat) (N T B M U : Nat) (wants : Bool) : Prop :=
  N = 1 + T + B ∧ T ≤ 7 ∧ U ≤ 30 ∧ (fc 5 0).toInt = 8 ∧ (∀ i, 0 < i → i < N → hj_e (fc 5 i).toInt (fc 6 i).toInt) ∧ hj_t (fc 5) N = T ∧ hc_w (fc 0) a M ∧
  hc_h (fc 0) a M = (B : Int) + (if wants then 0 else 1) ∧ B + (if wants then 0 else 1) ≤ U ∧ M + N ≤ 9 * U + (if wants then 1 + T else 0) ∧ ∀ κ j, (κ ≠ 5 ∧ κ ≠ 6 ∧ (κ = 0 → j < a ∨ a + 560 ≤ j)) → fc κ j = C0 κ j
theorem hc_h_up {C C' : Nat → Int32} {a : Nat} : ∀ {m : Nat}, (∀ i, i < m → C' (a + i) = C (a + i)) → ∀ i, i ≤ m → hc_h C' a i = hc_h C a i := by
  intro m h i
  induction i with
  | zero => intro _; rfl
  | succ i ih =>
    intro hi
    show hc_s (C' (a + i)).toInt (hc_h C' a i) = hc_s (C (a + i)).toInt (hc_h C a i)
    rw [ih (by omega), h i (by omega)]
theorem hc_w_up {C C' : Nat → Int32} {a m : Nat} (h : ∀ i, i < m → C' (a + i) = C (a + i)) (hw : hc_w C a m) : hc_w C' a m := fun i hi => by
  rw [h i hi, hc_h_up h i (by omega)]
  exact hw i hi
theorem hj_t_up {X X' : Nat → Int32} : ∀ {n : Nat}, (∀ i, i < n → X' i = X i) → hj_t X' n = hj_t X n
  | 0, _ => rfl
  | n + 1, h => by
    show hj_t X' n + _ = hj_t X n + _
    rw [hj_t_up (n := n) (fun i hi => h i (by omega)), h n (by omega)]
section HJ
variable {fc C0 : Nat → Nat → Int32} {a N T B M U : Nat}
theorem hj_bd {wants : Bool} (h : hj_J fc C0 a N T B M U wants) : N ≤ 38 ∧ M ≤ 280 ∧ 1 ≤ N ∧ B ≤ 30 := by
  obtain ⟨h1, h2, h3, -, -, -, -, -, h9, h10, -⟩ := h
  cases wants <;> simp at h9 h10 <;> omega
/-- two ghosts of the pile written at its end -/
theorem hj_push (h : hj_J fc C0 a N T B M U true) {x y : Int32} (hx : (x.toInt = 3 ∧ y.toInt = 126) ∨ x.toInt = 7) (hT : T ≤ 6) {U' : Nat} (hU : U ≤ U') (hU' : U' ≤ 30) : hj_J (q_up (q_up fc 5 N x) 6 N y) C0 a (N + 1) (T + 1) B M U' true := by
  obtain ⟨h1, h2, h3, h4, h5, h6, h7, h8, h9, h10, h11⟩ := h
  have e0 : ∀ κ j, κ ≠ 5 → κ ≠ 6 → q_up (q_up fc 5 N x) 6 N y κ j = fc κ j := fun κ j a b => by rw [q_up_k b, q_up_k a]
  have e5 : ∀ j, j ≠ N → q_up (q_up fc 5 N x) 6 N y 5 j = fc 5 j := fun j hj => by rw [q_up_k (by decide), q_up_ne hj]
  have e6 : ∀ j, j ≠ N → q_up (q_up fc 5 N x) 6 N y 6 j = fc 6 j := fun j hj => by rw [q_up_ne hj, q_up_k (by decide)]
  have x5 : q_up (q_up fc 5 N x) 6 N y 5 N = x := by rw [q_up_k (by decide), q_up_at]
  have x6 : q_up (q_up fc 5 N x) 6 N y 6 N = y := q_up_at
  refine ⟨by omega, by omega, hU', by rw [e5 0 (by omega)]; exact h4, fun i i1 i2 => ?_, ?_, hc_w_up (fun i _ => e0 0 _ (by decide) (by decide)) h7, ?_, by simp at h9 ⊢; omega, by simp at h10 ⊢; omega, fun κ j hk => by rw [e0 κ j hk.1 hk.2.1]; exact h11 κ j hk⟩
  · by_cases e : i = N
    · subst e
      rw [x5, x6]
      rcases hx with ⟨z1, z2⟩ | z
      · exact Or.inl ⟨z1, z2⟩
      · exact Or.inr (Or.inl z)
    · rw [e5 i e, e6 i e]
      exact h5 i i1 (by omega)
  · show hj_t _ N + _ = T + 1
    rw [hj_t_up (X := fc 5) (fun i hi => e5 i (by omega)), h6, x5, if_pos ⟨by omega, hx.imp (fun z => z.1) (fun z => z)⟩]
  · rw [hc_h_up (C := fc 0) (m := M) (fun i _ => e0 0 _ (by decide) (by decide)) M (Nat.le_refl _)]
    exact h8
theorem hj_unit (h : hj_J fc C0 a N T B M U true) {c : Int32} (h1 : 97 ≤ c.toInt) (h2 : c.toInt ≤ 122) (hU : U + 1 ≤ 30) : hj_J (q_up fc 0 (a + M) c) C0 a N T B (M + 1) (U + 1) false := by
  obtain ⟨k1, k2, k3, k4, k5, k6, k7, k8, k9, k10, k11⟩ := h
  simp at k8 k9 k10
  have e0 : ∀ i, i < M → q_up fc 0 (a + M) c 0 (a + i) = fc 0 (a + i) := fun i hi => q_up_ne (by omega)
  have eh := hc_h_up (C := fc 0) (C' := q_up fc 0 (a + M) c 0) e0 M (Nat.le_refl _)
  refine ⟨k1, k2, hU, by rw [q_up_k (by decide)]; exact k4, fun i i1 i2 => by rw [q_up_k (by decide), q_up_k (by decide)]; exact k5 i i1 i2, ?_, fun i hi => ?_, ?_, by simp; omega, by simp; omega, fun κ j hk => ?_⟩
  · rw [hj_t_up (X := fc 5) (fun i _ => q_up_k (by decide))]
    exact k6
  · by_cases e : i = M
    · subst e
      rw [q_up_at, eh, k8]
      exact Or.inr (Or.inl ⟨h1, h2, by omega, by omega⟩)
    · exact hc_w_up e0 k7 i (by omega)
  · show hc_s (q_up fc 0 (a + M) c 0 (a + M)).toInt (hc_h (q_up fc 0 (a + M) c 0) a M) = _
    rw [q_up_at, eh, k8, hc_s, if_neg (by omega), if_pos ⟨h1, h2⟩]
    simp
  · by_cases e : κ = 0
    · subst e
      have := hk.2.2 rfl
      rw [q_up_ne (by omega)]
      exact k11 0 j hk
    · rw [q_up_k e]
      exact k11 κ j hk
/-- what is on top -/
theorem hj_top {wants : Bool} (h : hj_J fc C0 a (N + 1) T B M U wants) : (N = 0 ∧ (fc 5 0).toInt = 8 ∧ T = 0 ∧ B = 0) ∨ (0 < N ∧ hj_e (fc 5 N).toInt (fc 6 N).toInt ∧ (((fc 5 N).toInt = 3 ∨ (fc 5 N).toInt = 7) → hj_t (fc 5) N + 1 = T) ∧ (¬ ((fc 5 N).toInt = 3 ∨ (fc 5 N).toInt = 7) → hj_t (fc 5) N = T)) := by
  obtain ⟨h1, h2, h3, h4, h5, h6, -⟩ := h
  rcases Nat.eq_zero_or_pos N with z | z
  · exact Or.inl ⟨z, h4, by omega, by omega⟩
  · right
    refine ⟨z, h5 N z (by omega), fun q => ?_, fun q => ?_⟩
    · have h6 : hj_t (fc 5) N + (if 0 < N ∧ ((fc 5 N).toInt = 3 ∨ (fc 5 N).toInt = 7) then 1 else 0) = T := h6
      rw [if_pos ⟨z, q⟩] at h6
      exact h6
    · have h6 : hj_t (fc 5) N + (if 0 < N ∧ ((fc 5 N).toInt = 3 ∨ (fc 5 N).toInt = 7) then 1 else 0) = T := h6
      rw [if_neg (fun w => q w.2)] at h6
      exact h6
theorem hj_low {wants : Bool} (h : hj_J fc C0 a (N + 1) T B M U wants) (hN : 0 < N) : (∀ i, 0 < i → i < N → hj_e (fc 5 i).toInt (fc 6 i).toInt) := fun i i1 i2 => h.2.2.2.2.1 i i1 (by omega)
/-- a sign is taken off the pile and written -/
theorem hj_pop (h : hj_J fc C0 a (N + 1) T B M U false) (hx : (fc 5 N).toInt ≤ 6) (hN : 0 < N) : ∃ T' B', ((fc 5 N).toInt = 3 → T' + 1 = T) ∧ ((fc 5 N).toInt ≠ 3 → T' = T) ∧ hj_J (q_up fc 0 (a + M) (fc 6 N)) C0 a N T' B' (M + 1) U false := by
  have htop := hj_top h
  obtain ⟨k1, k2, k3, k4, k5, k6, k7, k8, k9, k10, k11⟩ := h
  simp at k8 k9 k10
  rcases htop with ⟨z, -⟩ | ⟨-, he, ht1, ht2⟩
  · omega
  have e0 : ∀ i, i < M → q_up fc 0 (a + M) (fc 6 N) 0 (a + i) = fc 0 (a + i) := fun i hi => q_up_ne (by omega)
  have eh := hc_h_up (C := fc 0) (C' := q_up fc 0 (a + M) (fc 6 N) 0) e0 M (Nat.le_refl _)
  have fr : ∀ κ j, (κ ≠ 5 ∧ κ ≠ 6 ∧ (κ = 0 → j < a ∨ a + 560 ≤ j)) → q_up fc 0 (a + M) (fc 6 N) κ j = C0 κ j := fun κ j hk => by
    by_cases e : κ = 0
    · subst e
      have := hk.2.2 rfl
      rw [q_up_ne (by omega)]
      exact k11 0 j hk
    · rw [q_up_k e]
      exact k11 κ j hk
  have t5 : ∀ n, hj_t (q_up fc 0 (a + M) (fc 6 N) 5) n = hj_t (fc 5) n := fun n => hj_t_up (fun i _ => q_up_k (by decide))
  have lowe : ∀ i, 0 < i → i < N → hj_e (q_up fc 0 (a + M) (fc 6 N) 5 i).toInt (q_up fc 0 (a + M) (fc 6 N) 6 i).toInt := fun i i1 i2 => by
    rw [q_up_k (by decide), q_up_k (by decide)]
    exact k5 i i1 (by omega)
  have step : hc_h (q_up fc 0 (a + M) (fc 6 N) 0) a (M + 1) = hc_s (fc 6 N).toInt ((B : Int) + 1) := by
    show hc_s (q_up fc 0 (a + M) (fc 6 N) 0 (a + M)).toInt (hc_h (q_up fc 0 (a + M) (fc 6 N) 0) a M) = _
    rw [q_up_at, eh, k8]
  have wf : hc_n (fc 6 N).toInt ((B : Int) + 1) → hc_w (q_up fc 0 (a + M) (fc 6 N) 0) a (M + 1) := fun hn i hi => by
    by_cases e : i = M
    · subst e
      rw [q_up_at, eh, k8]
      exact hn
    · exact hc_w_up e0 k7 i (by omega)
  rcases he with ⟨z1, z2⟩ | z | ⟨z1, z2⟩
  · have := ht1 (Or.inl z1)
    refine ⟨hj_t (fc 5) N, B, fun _ => this, fun q => absurd z1 q, by omega, by omega, k3, by rw [q_up_k (by decide)]; exact k4, lowe, t5 N, wf (Or.inl ⟨z2, by omega, by omega⟩), ?_, by simp; omega, by simp; omega, fr⟩
    rw [step, hc_s, if_pos z2]
    simp
  · omega
  · have hn3 : ¬ ((fc 5 N).toInt = 3 ∨ (fc 5 N).toInt = 7) := by omega
    have := ht2 hn3
    have hB : 1 ≤ B := by
      have hle : hj_t (fc 5) N ≤ N - 1 := by
        have : ∀ n, hj_t (fc 5) n ≤ n - 1 := by
          intro n
          induction n with
          | zero => exact Nat.le_refl _
          | succ n ih =>
            show hj_t (fc 5) n + (if 0 < n ∧ ((fc 5 n).toInt = 3 ∨ (fc 5 n).toInt = 7) then 1 else 0) ≤ n
            split
            · omega
            · omega
        exact this N
      omega
    refine ⟨T, B - 1, fun q => absurd q (by omega), fun _ => rfl, by omega, by omega, k3, by rw [q_up_k (by decide)]; exact k4, lowe, by rw [t5 N]; exact this, wf (Or.inr (Or.inr ⟨z2, by omega, by omega⟩)), ?_, by simp; omega, by simp; omega, fr⟩
    have hb : (fc 6 N).toInt ≠ 126 ∧ ¬ (97 ≤ (fc 6 N).toInt ∧ (fc 6 N).toInt ≤ 122) := by
      rcases z2 with ⟨q1, q2⟩ | q <;> omega
    rw [step, hc_s, if_neg hb.1, if_neg hb.2]
    simp
    omega
/-- a sign is put on the pile -/
theorem hj_psh (h : hj_J fc C0 a N T B M U false) {x y : Int32} (hx : x.toInt = 1 ∨ x.toInt = 2 ∨ x.toInt = 4 ∨ x.toInt = 5 ∨ x.toInt = 6) (hy : hj_b y.toInt) : hj_J (q_up (q_up fc 5 N x) 6 N y) C0 a (N + 1) T (B + 1) M U true := by
  obtain ⟨h1, h2, h3, h4, h5, h6, h7, h8, h9, h10, h11⟩ := h
  simp at h8 h9 h10
  have e0 : ∀ κ j, κ ≠ 5 → κ ≠ 6 → q_up (q_up fc 5 N x) 6 N y κ j = fc κ j := fun κ j a b => by rw [q_up_k b, q_up_k a]
  have e5 : ∀ j, j ≠ N → q_up (q_up fc 5 N x) 6 N y 5 j = fc 5 j := fun j hj => by rw [q_up_k (by decide), q_up_ne hj]
  have e6 : ∀ j, j ≠ N → q_up (q_up fc 5 N x) 6 N y 6 j = fc 6 j := fun j hj => by rw [q_up_ne hj, q_up_k (by decide)]
  have x5 : q_up (q_up fc 5 N x) 6 N y 5 N = x := by rw [q_up_k (by decide), q_up_at]
  have x6 : q_up (q_up fc 5 N x) 6 N y 6 N = y := q_up_at
  refine ⟨by omega, by omega, h3, by rw [e5 0 (by omega)]; exact h4, fun i i1 i2 => ?_, ?_, hc_w_up (fun i _ => e0 0 _ (by decide) (by decide)) h7, ?_, by simp; omega, by simp; omega, fun κ j hk => by rw [e0 κ j hk.1 hk.2.1]; exact h11 κ j hk⟩
  · by_cases e : i = N
    · subst e
      rw [x5, x6]
      exact Or.inr (Or.inr ⟨hx, hy⟩)
    · rw [e5 i e, e6 i e]
      exact h5 i i1 (by omega)
  · show hj_t _ N + _ = T
    rw [hj_t_up (X := fc 5) (fun i hi => e5 i (by omega)), h6, x5, if_neg (by omega)]
    rfl
  · rw [hc_h_up (C := fc 0) (m := M) (fun i _ => e0 0 _ (by decide) (by decide)) M (Nat.le_refl _), h8]
    simp
/-- a bracket is closed -/
theorem hj_cls (h : hj_J fc C0 a (N + 1) T B M U false) (hx : (fc 5 N).toInt = 7) : ∃ T', T' + 1 = T ∧ hj_J fc C0 a N T' B M U false := by
  have htop := hj_top h
  obtain ⟨k1, k2, k3, k4, k5, k6, k7, k8, k9, k10, k11⟩ := h
  simp at k9 k10
  rcases htop with ⟨z, z2, -⟩ | ⟨z, -, ht1, -⟩
  · subst z
    omega
  · have := ht1 (Or.inr hx)
    exact ⟨hj_t (fc 5) N, this, by omega, by omega, k3, k4, fun i i1 i2 => k5 i i1 (by omega), rfl, k7, k8, by simp; omega, by simp; omega, k11⟩
/-- the beginning -/
theorem hj_new {fc C0 : Nat → Nat → Int32} {a : Nat} (h : ∀ κ j, κ ≠ 5 → κ ≠ 6 → fc κ j = C0 κ j) : hj_J (q_up (q_up fc 5 0 8) 6 0 0) C0 a 1 0 0 0 0 true := by
  have e0 : ∀ κ j, κ ≠ 5 → κ ≠ 6 → q_up (q_up fc 5 0 8) 6 0 0 κ j = fc κ j := fun κ j a b => by rw [q_up_k b, q_up_k a]
  have x5 : q_up (q_up fc 5 0 8) 6 0 0 5 0 = 8 := by rw [q_up_k (by decide), q_up_at]
  refine ⟨rfl, by omega, by omega, by rw [x5]; rfl, fun i i1 i2 => by omega, ?_, fun i hi => by omega, rfl, by simp, by simp, fun κ j hk => by rw [e0 κ j hk.1 hk.2.1]; exact h κ j hk.1 hk.2.1⟩
  show hj_t _ 0 + (if 0 < 0 ∧ _ then 1 else 0) = 0
  rw [if_neg (by omega)]
  rfl
/-- the end: the program is well formed -/
theorem hj_fin (h : hj_J fc C0 a 1 T B M U false) : hc_w (fc 0) a M ∧ M ≤ 280 := ⟨h.2.2.2.2.2.2.1, (hj_bd h).2.1⟩
end HJ
