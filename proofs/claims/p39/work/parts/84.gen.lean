/-! more for the work by hand: segments put together, ghosts taken anew -/
def q_nok (κ : Nat) (e : qE) : Bool := match e with
  | .inr (.inr (.inr q)) => !Nat.beq q.2.2.1 κ
  | _ => true
/-- no other cell than the c-th has the ghost κ -/
def q_nol (κ : Nat) : List qE → Nat → Bool
  | [], _ => true
  | _ :: t, 0 => t.all (q_nok κ)
  | e :: t, c + 1 => q_nok κ e && q_nol κ t c
theorem q_nol_ok {κ : Nat} : ∀ {w : List qE} {c : Nat}, q_nol κ w c = true → ∀ (j : Nat) (e : qE), j ≠ c → w[j]? = some e → q_nok κ e = true
  | [], c, _, j, e, _, he => by simp at he
  | x :: t, 0, h, j, e, hj, he => by
    cases j with
    | zero => exact absurd rfl hj
    | succ j => exact List.all_eq_true.mp h e (List.mem_of_getElem? (by simpa using he))
  | x :: t, c + 1, h, j, e, hj, he => by
    obtain ⟨h1, h2⟩ := Bool.and_eq_true_iff.mp h
    cases j with
    | zero => cases he; exact h1
    | succ j => exact q_nol_ok h2 j e (fun z => hj (by rw [z])) (by simpa using he)
theorem q_L.n {lk : qLk} {ρ ρ' : List Int} (h : q_L lk ρ ρ') {i s : Nat} {d x : Int} (hm : (i, (.inr (.inl (s, 1, d)) : qV)) ∈ lk.1) (hx : ρ[s]? = some x) : ρ'[i]? = some (x + d) := by
  refine h.1 _ hm _ ?_
  show (ρ[s]?).map (fun r => 1 * r + d) = some (x + d)
  rw [hx]
  show some (1 * x + d) = some (x + d)
  rw [Int.one_mul]
theorem q_L.l {lk : qLk} {ρ ρ' : List Int} (h : q_L lk ρ ρ') {i : Nat} {z : Int} (hm : (i, (.inl z : qV)) ∈ lk.1) : ρ'[i]? = some z := h.1 _ hm _ rfl
section QHG
variable {ρ ρ' : List Int} {ex : Nat → Value} {fc fc' : Nat → Nat → Int32} {Γ : qΓ} {D : va_G} {as : List Nat} {tys : List (ClassId × FieldType)} {p : Nat}
theorem qy_e_gh {κ : Nat} {e : qE} {q : va_E} (hn : q_nok κ e = true) (hf : ∀ κ' j, κ' ≠ κ → fc' κ' j = fc κ' j) (h : qy_e ρ ex fc tys as e q) : qy_e ρ ex fc' tys as e q := by
  match e, q, hn, h with
  | .inl (t, vs), .inl (cA, n, .inl f), _, h => exact h
  | .inr (.inl (c, fs)), .inr (c', gs), _, h => exact h
  | .inr (.inr (.inl (t, N, sg, kn))), .inl (cA, n, .inl f), _, h => exact h
  | .inr (.inr (.inl (t, N, sg, kn))), .inl (cA, n, .inr (.inl f)), _, h => exact h
  | .inr (.inr (.inr (t, N, κ', kn, ov))), .inl (cA, n, .inl f), hn, ⟨h1, h2, h3, h4, h5⟩ =>
    have hk : κ' ≠ κ := fun z => by
      subst z
      have hn : (!Nat.beq κ' κ') = true := hn
      rw [Nat.beq_refl] at hn
      cases hn
    have e1 : fc' κ' = fc κ' := funext fun j => hf κ' j hk
    refine ⟨h1, h2, h3, ?_, ?_⟩
    · rw [e1]; exact h4
    · rw [e1]; exact h5
/-- what was written over a ghost is the ghost's own now -/
theorem qy_w.rf {w : List qE} {ws : va_W} (h : qy_w ρ ex fc tys as w ws) {c t N κ : Nat} {kn or : List (qV × qV)} {a x : qV} {z y : Int} (hc : w[c]? = some (.inr (.inr (.inr (t, N, κ, kn, (a, x) :: or))))) (hn : q_nol κ w c = true) (hz : q_val ρ a = some z) (hy : q_val ρ x = some y) (ha : q_isI a = true) (hx : q_isI x = true) : qy_w ρ ex (q_up fc κ z.toNat (Int32.ofInt y)) tys as (w.set c (.inr (.inr (.inr (t, N, κ, [], []))))) ws := by
  have val : ∀ {v : qV} {u : Int} {i : Int32}, q_isI v = true → q_val ρ v = some u → qy_v ρ ex as v (.int i) → i.toInt = u := by
    intro v u i hv hu hi
    match v, hv, hu, hi with
    | .inl m, _, hu, ⟨i', e1, e2⟩ =>
      cases e1
      rw [e2]
      exact Option.some.inj hu
    | .inr (.inl (s, c, d)), _, hu, ⟨i', r, e1, e2, e3⟩ =>
      cases e1
      have e2 : ρ[s]? = some r := e2
      have hu : (ρ[s]?).map (fun r => c * r + d) = some u := hu
      rw [e2] at hu
      rw [e3]
      exact Option.some.inj hu
  refine ⟨by rw [List.length_set]; exact h.1, by rw [List.length_set]; exact h.2.1, fun k e he => ?_⟩
  rw [List.getElem?_set] at he
  by_cases hk : c = k
  · subst hk
    have hl := (List.getElem?_eq_some_iff.mp hc).1
    rw [if_pos rfl, if_pos hl] at he
    cases he
    obtain ⟨q, ad, h1, h2, h3⟩ := h.2.2 c _ hc
    refine ⟨q, ad, h1, h2, ?_⟩
    match q, h3 with
    | .inl (cA, n, .inl f), ⟨k1, k2, k3, k4, i, v, k5, k6, k7, k8, k9⟩ =>
      refine ⟨k1, k2, k3, fun u hu => (by cases hu), fun j hj => ?_⟩
      have e1 := val ha hz k5
      have e2 := val hx hy k8
      rw [k9 j hj]
      unfold q_up
      by_cases e : j = i.toInt.toNat
      · rw [if_pos e, if_pos ⟨rfl, by rw [e, e1]⟩]
        apply Int32.toInt_inj.mp
        rw [← e2, Int32.ofInt_toInt]
      · rw [if_neg e, if_neg (fun w => e (by rw [w.2, e1]))]
  · rw [if_neg hk] at he
    obtain ⟨q, ad, h1, h2, h3⟩ := h.2.2 k e he
    exact ⟨q, ad, h1, h2, qy_e_gh (q_nol_ok hn k e (fun z => hk z.symm) he) (fun κ' j hk' => q_up_k hk') h3⟩
/-- a segment, and then every end of it -/
theorem qs_lnkB {ct : List qC} (hV : ∀ c ∈ ct, qy_V ex (qΓ1 fc) D as tys c) (hT : zk_t) (hA : zk_a) {fuel k d : Nat} {cuts : List Nat} {pc : Nat} {G0 : qG} {W0 : List qE} {lo0 : qL} {st0 : List qV} {ends : List qEd} (h : q_lgk ct fuel p k d cuts pc G0 W0 lo0 st0 ends = true) {P : qP}
    (hk : ∀ E ∈ ends, ∀ ρ', ρ'.take p = ρ.take p → q_L E.2 ρ ρ' → qy_g ρ' E.1.1 → (∃ ws, qy_w ρ' ex fc tys as E.1.2.1 ws) → (∀ rv, E.1.2.2 = .inl rv → P fc ρ' E.1) ∧ ∀ q, E.1.2.2 = .inr q → qy_TP ex D as tys d k fc ρ' E.1.1 E.1.2.1 q.2.1 q.2.2 q.1 P) : qy_TP ex D as tys d k fc ρ G0 W0 lo0 st0 pc P := by
  refine (qs_lnk (Γ := qΓ1 fc) (ρ := ρ) hV hT hA rfl h).bind ?_
  rintro fc' ρ' o ⟨E, hE, rfl, hγ, htk, hL⟩ hws hg
  have e : fc' = fc := hγ.1
  rw [e] at hws ⊢
  exact hk E hE ρ' htk hL hg hws
/-- a place in a method from which another one is called -/
theorem qs_vc (hT : zk_t) (hA : zk_a) {k pc idx nx rk ci k' mc ms p1 p2 p3 p4 mx : Nat} {is : List Nat} (h : (zx_code.getD k [])[pc]? = some (.invokevirtual idx, 3, nx, 2 :: rk :: ci :: k' :: mc :: ms :: p1 :: p2 :: p3 :: p4 :: mx :: is)) : zk_m k' 0 0 mx ∧ q_cls rk ci k' ∧ qy_run1 ex k pc rk k' is := by
  have h0 := hA k pc _ h
  have hq : (decide (decode (zx_bys k) pc = .ok (.invokevirtual idx, 3)) && zx_okI k pc (.invokevirtual idx) 3 nx (2 :: rk :: ci :: k' :: mc :: ms :: p1 :: p2 :: p3 :: p4 :: mx :: is)) = true := h0
  obtain ⟨h3, h4⟩ := Bool.and_eq_true_iff.mp hq
  clear hq h0
  have hd := of_decide_eq_true h3
  have h4 : zx_okC k pc 1 idx nx (2 :: rk :: ci :: k' :: mc :: ms :: p1 :: p2 :: p3 :: p4 :: mx :: is) = true := h4
  obtain ⟨hn, h⟩ := Bool.and_eq_true_iff.mp h4
  obtain ⟨h1, h⟩ := Bool.and_eq_true_iff.mp h
  obtain ⟨h2, h⟩ := Bool.and_eq_true_iff.mp h
  have hM : zk_m k' 0 0 mx := zx_mB_ok h1
  obtain ⟨e1, h⟩ := Bool.and_eq_true_iff.mp h
  obtain ⟨e2, h⟩ := Bool.and_eq_true_iff.mp h
  obtain ⟨e3, h⟩ := Bool.and_eq_true_iff.mp h
  match is, h with
  | _ :: r, h => exact ⟨hM, (zx_clB_ok e1).2, qy_rvirt hM (zx_clB_ok e1).1 (of_decide_eq_true h) rfl (zx_w_ok h2) (zx_w_ok e2) (zx_w_ok e3) hd⟩
end QHG
