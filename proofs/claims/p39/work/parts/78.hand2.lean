/-! the rule's program: comes() goes well over a program that is well formed -/
section QHB
variable {ρ ρ' : List Int} {ex : Nat → Value} {fc fc' : Nat → Nat → Int32} {Γ : qΓ} {D : va_G} {as : List Nat} {tys : List (ClassId × FieldType)}
theorem qy_w.chg {w : List qE} {ws : va_W} (h : qy_w ρ ex fc tys as w ws) {i : Nat} {e e' : qE} (hi : w[i]? = some e) (hq : ∀ q, qy_e ρ ex fc tys as e q → qy_e ρ ex fc tys as e' q) : qy_w ρ ex fc tys as (w.set i e') ws := by
  refine ⟨by rw [List.length_set]; exact h.1, by rw [List.length_set]; exact h.2.1, fun k x hx => ?_⟩
  rw [List.getElem?_set] at hx
  by_cases hk : i = k
  · subst hk
    have hl := (List.getElem?_eq_some_iff.mp hi).1
    rw [if_pos rfl, if_pos hl] at hx
    cases hx
    obtain ⟨q, a, h1, h2, h3⟩ := h.2.2 i e hi
    exact ⟨q, a, h1, h2, hq q h3⟩
  · rw [if_neg hk] at hx
    exact h.2.2 k x hx
theorem qy_g.nar {g : qG} (h : qy_g ρ g) {i : Nat} {z lo hi : Int} (hz : ρ[i]? = some z) (h1 : lo ≤ z) (h2 : z ≤ hi) : qy_g ρ (g.1.set i (lo, hi), g.2) := by
  refine ⟨by show (g.1.set i (lo, hi)).length = _; rw [List.length_set]; exact h.1, fun j q hq => ?_, h.2.2⟩
  have hq2 : (g.1.set i (lo, hi))[j]? = some q := hq
  rw [List.getElem?_set] at hq2
  by_cases hk : i = j
  · subst hk
    by_cases hl : i < g.1.length
    · rw [if_pos rfl, if_pos hl] at hq2
      cases hq2
      exact ⟨z, hz, h1, h2⟩
    · rw [if_pos rfl, if_neg hl] at hq2
      cases hq2
  · rw [if_neg hk] at hq2
    exact h.2.1 j q hq2
theorem qy_g.snoc {g : qG} (h : qy_g ρ g) {z lo hi : Int} (h1 : lo ≤ z) (h2 : z ≤ hi) : qy_g (ρ ++ [z]) (g.1 ++ [(lo, hi)], g.2) := by
  refine ⟨by show (g.1 ++ [(lo, hi)]).length = _; rw [List.length_append, List.length_append, h.1]; rfl, fun j q hq => ?_, fun f hf => ?_⟩
  · have hq2 : (g.1 ++ [(lo, hi)])[j]? = some q := hq
    by_cases hj : j < g.1.length
    · rw [List.getElem?_append_left hj] at hq2
      obtain ⟨r, r1, r2⟩ := h.2.1 j q hq2
      exact ⟨r, by rw [List.getElem?_append_left (by rw [← h.1]; exact hj)]; exact r1, r2⟩
    · rw [List.getElem?_append_right (by omega)] at hq2
      have e : j - g.1.length = 0 := by
        rcases Nat.eq_zero_or_pos (j - g.1.length) with z | z
        · exact z
        · rw [List.getElem?_eq_none (by simp; omega)] at hq2
          cases hq2
      rw [e] at hq2
      cases hq2
      refine ⟨z, ?_, h1, h2⟩
      rw [List.getElem?_append_right (by rw [← h.1]; omega), ← h.1, e]
      rfl
  · obtain ⟨r1, r2, a1, a2, a3⟩ := h.2.2 f hf
    have he : qe ρ (ρ ++ [z]) := ⟨[z], rfl⟩
    exact ⟨r1, r2, he.at a1, he.at a2, a3⟩
theorem qy_g.fact {g : qG} (h : qy_g ρ g) {a b c : Int} {i j : Nat} {r1 r2 : Int} (h1 : ρ[i]? = some r1) (h2 : ρ[j]? = some r2) (h3 : c ≤ a * r1 + b * r2) : qy_g ρ (g.1, (a, i, b, j, c) :: g.2) :=
  ⟨h.1, h.2.1, fun f hf => by
    rcases List.mem_cons.mp hf with rfl | hf
    · exact ⟨r1, r2, h1, h2, h3⟩
    · exact h.2.2 f hf⟩
/-- something is known of a ghost -/
theorem qy_knw {t N κ : Nat} {kn : List (qV × qV)} {a x : qV} {i : Int32} (h1 : qy_v ρ ex as a (.int i)) (h2 : 0 ≤ i.toInt) (h3 : i.toInt < N) (h4 : qy_v ρ ex as x (.int (fc κ i.toInt.toNat))) {q : va_E} (h : qy_e ρ ex fc tys as (.inr (.inr (.inr (t, N, κ, kn, [])))) q) : qy_e ρ ex fc tys as (.inr (.inr (.inr (t, N, κ, (a, x) :: kn, [])))) q := by
  match q, h with
  | .inl (cA, n, .inl f), ⟨e1, e2, e3, e4, e5⟩ =>
    refine ⟨e1, e2, e3, fun u hu => ?_, e5⟩
    rcases List.mem_cons.mp hu with rfl | hu
    · exact ⟨i, h1, h2, h3, h4⟩
    · exact e4 u hu
theorem qy_knl {z : Int} {i : Int32} (h : i.toInt = z) : qy_v ρ ex as (.inl z) (.int i) := ⟨i, rfl, h⟩
theorem qy_kns {s : Nat} {i : Int32} (h : ρ[s]? = some i.toInt) : qy_v ρ ex as (.inr (.inl (s, 1, 0))) (.int i) := ⟨i, i.toInt, rfl, h, by show i.toInt = 1 * i.toInt + 0; omega⟩
end QHB
/-- the height behind a step -/
def hc_s (c h : Int) : Int := if c = 126 then h else if 97 ≤ c ∧ c ≤ 122 then h + 1 else h - 1
def hc_n (c h : Int) : Prop := (c = 126 ∧ 1 ≤ h ∧ h ≤ 60) ∨ (97 ≤ c ∧ c ≤ 122 ∧ 0 ≤ h ∧ h ≤ 59) ∨ (((37 ≤ c ∧ c ≤ 62) ∨ c = 124) ∧ 2 ≤ h ∧ h ≤ 60)
def hc_h (C : Nat → Int32) (a : Nat) : Nat → Int
  | 0 => 0
  | i + 1 => hc_s (C (a + i)).toInt (hc_h C a i)
def hc_w (C : Nat → Int32) (a m : Nat) : Prop := ∀ i, i < m → hc_n (C (a + i)).toInt (hc_h C a i)
/-- the program of a bank is well formed -/
def hc_g (fc : Nat → Nat → Int32) (b : Nat) : Prop := (fc 2 b).toInt = 560 * b ∧ 560 * b ≤ (fc 3 b).toInt ∧ (fc 3 b).toInt ≤ 560 * b + 560 ∧ hc_w (fc 0) (560 * b) ((fc 3 b).toInt - 560 * b).toNat
/-! patterns of the loop -/
def hc_T (c : qC) (lo hi : Int) : qG := (c.2.2.1.1 ++ [(lo, hi), (0, 60), (lo, hi)], (1, 44, .negSucc 0, 46, 0) :: c.2.2.1.2)
def hc_W (c : qC) (b : Int) : List qE := c.2.2.2.1.set 14 (.inr (.inr (.inr (0, 2, 3, [(.inl b, .inr (.inl (44, 1, 0)))], []))))
def hc_L : qL := [(0, .inr (.inr (.inl (some 0)))), (1, .inr (.inl (45, 1, 0))), (2, .inr (.inl (46, 1, 0)))]
def hc_E (c : qC) (b lo hi : Int) (n k : qV) : qEd := ((hc_T c lo hi, hc_W c b, .inr (12, hc_L, [])), [(45, n), (46, k)], [])
/-- from the start to the loop -/
noncomputable def hc_k0 (c : qC) (b lo hi : Int) : Bool := q_lgk [] 1000 45 c.1 c.2.1 [12] 0 (c.2.2.1.1 ++ [(lo, hi)], c.2.2.1.2) ((hc_W c b).set 13 (.inr (.inr (.inr (0, 2, 2, [(.inl b, .inl lo)], []))))) c.2.2.2.2.1 [] [hc_E c b lo hi (.inl 0) (.inl lo)]
/-- out of the loop -/
noncomputable def hc_kx (c : qC) (b lo hi : Int) : Bool := q_lgk [] 1000 44 c.1 c.2.1 [12] 12 ((hc_T c lo hi).1, (1, 46, .negSucc 0, 44, 0) :: (hc_T c lo hi).2) (hc_W c b) hc_L [] ((q_po c).map fun o => (o, [], []))
/-- a step -/
noncomputable def hc_ks (c : qC) (b lo hi : Int) (nr cr : Int × Int) (n : qV) : Bool := q_lgk [] 1000 45 c.1 c.2.1 [12] 12 ((hc_T c lo hi).1.set 45 nr ++ [cr], (1, 44, .negSucc 0, 46, 1) :: (hc_T c lo hi).2) ((hc_W c b).set 17 (.inr (.inr (.inr (0, 1120, 0, [(.inr (.inl (46, 1, 0)), .inr (.inl (47, 1, 0)))], []))))) hc_L [] [hc_E c b lo hi n (.inr (.inl (46, 1, 1)))]
/-- one ghost alone -/
def qΓ1 (fc : Nat → Nat → Int32) : qΓ := (fun f => f = fc, fun _ => True)
theorem q_i32of {z : Int} (h1 : -2147483648 ≤ z) (h2 : z ≤ 2147483647) : (Int32.ofInt z).toInt = z := Int32.toInt_ofInt_of_le (by omega) (by omega)
theorem q_tk {ρ ρ' : List Int} {p q i : Nat} (h : ρ'.take p = ρ.take p) (hi : i < p) : ρ'[i]? = ρ[i]? := by
  have e1 : (ρ'.take p)[i]? = ρ'[i]? := by rw [List.getElem?_take, if_pos hi]
  have e2 : (ρ.take p)[i]? = ρ[i]? := by rw [List.getElem?_take, if_pos hi]
  rw [← e1, ← e2, h]
theorem q_tk2 {ρ ρ' : List Int} {p q : Nat} (h : ρ'.take p = ρ.take p) (hq : q ≤ p) : ρ'.take q = ρ.take q := by
  have e1 : (ρ'.take p).take q = ρ'.take q := by rw [List.take_take, Nat.min_eq_left hq]
  have e2 : (ρ.take p).take q = ρ.take q := by rw [List.take_take, Nat.min_eq_left hq]
  rw [← e1, ← e2, h]
section QHC
variable {ex : Nat → Value} {Γ : qΓ} {D : va_G} {as : List Nat} {tys : List (ClassId × FieldType)}
theorem hc_comes (hT : zk_t) (hA : zk_a) {b : Nat} {c : qC} {lo hi0 : Int} (hlo : lo = 560 * (b : Int)) (hhi : hi0 = 560 * (b : Int) + 560) (hb2 : b < 2)
    (hw13 : c.2.2.2.1[13]? = some (.inr (.inr (.inr (0, 2, 2, [], []))))) (hw14 : c.2.2.2.1[14]? = some (.inr (.inr (.inr (0, 2, 3, [], []))))) (hw17 : c.2.2.2.1[17]? = some (.inr (.inr (.inr (0, 1120, 0, [], []))))) (hlen : c.2.2.1.1.length = 44)
    (k0 : hc_k0 c b lo hi0 = true) (kx : hc_kx c b lo hi0 = true) (kA : hc_ks c b lo hi0 (1, 60) (126, 126) (.inr (.inl (45, 1, 0))) = true) (kB : hc_ks c b lo hi0 (0, 59) (97, 122) (.inr (.inl (45, 1, 1))) = true) (kC : hc_ks c b lo hi0 (2, 60) (37, 62) (.inr (.inl (45, 1, .negSucc 0))) = true) (kD : hc_ks c b lo hi0 (2, 60) (124, 124) (.inr (.inl (45, 1, .negSucc 0))) = true)
    (hG : ∀ fc, Γ.1 fc → hc_g fc b) : qy_V ex Γ D as tys c := by
  refine qy_V.ofTP fun fc ρ hΓ => ?_
  obtain ⟨g1, g2, g3, g4⟩ := hG fc hΓ
  refine qy_TP.intro fun hws hgρ => ?_
  have hl34 : ρ.length = 44 := by rw [← hgρ.1]; exact hlen
  have hW17 : (hc_W c b)[17]? = some (.inr (.inr (.inr (0, 1120, 0, [], [])))) := by
    unfold hc_W
    rw [List.getElem?_set_ne (by decide)]
    exact hw17
  have loop : ∀ (r i : Nat) (ρ1 : List Int), i + r = ((fc 3 b).toInt - 560 * b).toNat → ρ1.take 44 = ρ → ρ1[44]? = some (fc 3 b).toInt → ρ1[45]? = some (hc_h (fc 0) (560 * b) i) → ρ1[46]? = some (560 * (b : Int) + i) → qy_TP ex D as tys c.2.1 c.1 fc ρ1 (hc_T c lo hi0) (hc_W c b) hc_L [] 12 (qP_o Γ fc ρ (q_po c)) := by
    intro r
    induction r with
    | zero =>
      intro i ρ1 hi ht h34 h35 h36
      refine qy_TP.pre (ρ' := ρ1) (g' := ((hc_T c lo hi0).1, (1, 46, .negSucc 0, 44, 0) :: (hc_T c lo hi0).2)) (w' := hc_W c b) (lo' := hc_L) (st' := []) ?_ (fun ws h => h) (fun h => h.fact h36 h34 (by
        show (0 : Int) ≤ 1 * (560 * (b : Int) + i) + (-1) * (fc 3 b).toInt
        omega)) (fun _ _ h => h) (fun _ h => h)
      refine (qs_lnk (Γ := qΓ1 fc) (ρ := ρ1) (p := 44) qv_nil hT hA rfl kx).post ?_
      rintro fc' ρ' o ⟨E, hE, rfl, hγ, htk, -⟩
      obtain ⟨o', ho', rfl⟩ := List.mem_map.mp hE
      have e : fc' = fc := hγ.1
      rw [e]
      refine ⟨ho', ⟨ρ'.drop 44, ?_⟩, hΓ, fun _ _ => rfl⟩
      rw [← ht, ← htk, List.take_append_drop]
    | succ r ih =>
      intro i ρ1 hi ht h34 h35 h36
      have hn := g4 i (by omega)
      have step : ∀ (nr cr : Int × Int) (n : qV), hc_ks c b lo hi0 nr cr n = true → cr.1 ≤ (fc 0 (560 * b + i)).toInt → (fc 0 (560 * b + i)).toInt ≤ cr.2 → nr.1 ≤ hc_h (fc 0) (560 * b) i → hc_h (fc 0) (560 * b) i ≤ nr.2 → q_val (ρ1 ++ [(fc 0 (560 * b + i)).toInt]) n = some (hc_h (fc 0) (560 * b) (i + 1)) → qy_TP ex D as tys c.2.1 c.1 fc ρ1 (hc_T c lo hi0) (hc_W c b) hc_L [] 12 (qP_o Γ fc ρ (q_po c)) := by
        intro nr cr n hk b1 b2 b3 b4 hval
        refine qy_TP.intro fun _ hg1 => ?_
        have hl37 : ρ1.length = 47 := by
          rw [← hg1.1]
          show (c.2.2.1.1 ++ [(lo, hi0), (0, 60), (lo, hi0)]).length = 47
          rw [List.length_append, hlen]
          rfl
        have he : qe ρ1 (ρ1 ++ [(fc 0 (560 * b + i)).toInt]) := ⟨_, rfl⟩
        have e37 : (ρ1 ++ [(fc 0 (560 * b + i)).toInt])[47]? = some (fc 0 (560 * b + i)).toInt := by
          rw [List.getElem?_append_right (by omega), hl37]
          rfl
        have hix : (Int32.ofInt (560 * (b : Int) + i)).toInt = 560 * (b : Int) + i := q_i32of (by omega) (by omega)
        refine qy_TP.pre (ρ' := ρ1 ++ [(fc 0 (560 * b + i)).toInt]) (g' := ((hc_T c lo hi0).1.set 45 nr ++ [cr], (1, 44, .negSucc 0, 46, 1) :: (hc_T c lo hi0).2)) (w' := (hc_W c b).set 17 (.inr (.inr (.inr (0, 1120, 0, [(.inr (.inl (46, 1, 0)), .inr (.inl (47, 1, 0)))], []))))) (lo' := hc_L) (st' := []) ?_
          (fun ws h => (h.mono he).chg hW17 (fun q hq => qy_knw (i := Int32.ofInt (560 * (b : Int) + i)) (qy_kns (by rw [hix]; exact he.at h36)) (by rw [hix]; omega) (by rw [hix]; show _ < ((1120 : Nat) : Int); omega) (qy_kns (by
            rw [hix, show (560 * (b : Int) + i).toNat = 560 * b + i by omega]
            exact e37)) hq))
          (fun h => ((h.nar h35 b3 b4).snoc b1 b2).fact (he.at h34) (he.at h36) (by
            show (1 : Int) ≤ 1 * (fc 3 b).toInt + (-1) * (560 * (b : Int) + i)
            omega)) (fun _ _ h => h.mono he) (fun _ h => h.mono he)
        refine (qs_lnk (Γ := qΓ1 fc) (p := 45) qv_nil hT hA rfl hk).bind ?_
        rintro fc' ρ' o ⟨E, hE, rfl, hγ, htk, hL⟩ - -
        obtain rfl := List.mem_singleton.mp hE
        have e : fc' = fc := hγ.1
        rw [e]
        refine ⟨fun rv hrv => (by cases hrv), fun q hq => ?_⟩
        cases hq
        refine ih (i + 1) ρ' (by omega) ?_ ?_ ?_ ?_
        · rw [q_tk2 (q := 44) htk (by omega), List.take_append_of_le_length (by omega)]
          exact ht
        · rw [q_tk (i := 44) (q := 0) htk (by omega)]
          exact he.at h34
        · exact hL.1 (45, n) List.mem_cons_self _ hval
        · refine (hL.1 (46, .inr (.inl (46, 1, 1))) (List.mem_cons_of_mem _ List.mem_cons_self) (560 * (b : Int) + (i + 1 : Nat)) ?_)
          show ((ρ1 ++ [(fc 0 (560 * b + i)).toInt])[46]?).map (fun r => 1 * r + 1) = _
          rw [he.at h36]
          show some (1 * (560 * (b : Int) + i) + 1) = _
          congr 1
          omega
      have val : ∀ (dd : Int), q_val (ρ1 ++ [(fc 0 (560 * b + i)).toInt]) (.inr (.inl (45, 1, dd))) = some (hc_h (fc 0) (560 * b) i + dd) := fun dd => by
        have he : qe ρ1 (ρ1 ++ [(fc 0 (560 * b + i)).toInt]) := ⟨_, rfl⟩
        show ((ρ1 ++ [(fc 0 (560 * b + i)).toInt])[45]?).map (fun r => 1 * r + dd) = _
        rw [he.at h35]
        show some (1 * hc_h (fc 0) (560 * b) i + dd) = _
        congr 1
        omega
      rcases hn with ⟨n1, n2, n3⟩ | ⟨n1, n2, n3, n4⟩ | ⟨n1, n2, n3⟩
      · refine step _ _ _ kA (by show (126 : Int) ≤ _; omega) (by show _ ≤ (126 : Int); omega) n2 n3 ?_
        rw [val]
        show _ = some (hc_s (fc 0 (560 * b + i)).toInt _)
        rw [hc_s, if_pos n1]
        congr 1
        omega
      · refine step _ _ _ kB n1 n2 n3 n4 ?_
        rw [val]
        show _ = some (hc_s (fc 0 (560 * b + i)).toInt _)
        rw [hc_s, if_neg (by omega), if_pos ⟨n1, n2⟩]
      · have hs : hc_h (fc 0) (560 * b) (i + 1) = hc_h (fc 0) (560 * b) i + (-1) := by
          show hc_s (fc 0 (560 * b + i)).toInt _ = _
          rw [hc_s, if_neg (by omega), if_neg (by omega)]
          omega
        rcases n1 with ⟨n1, n4⟩ | n1
        · refine step _ _ _ kC n1 n4 n2 n3 ?_
          rw [hs]
          exact val (-1)
        · refine step _ _ _ kD (by show (124 : Int) ≤ _; omega) (by show _ ≤ (124 : Int); omega) n2 n3 ?_
          rw [hs]
          exact val (-1)
  -- the start
  have he : qe ρ (ρ ++ [(fc 3 b).toInt]) := ⟨_, rfl⟩
  have e34 : (ρ ++ [(fc 3 b).toInt])[44]? = some (fc 3 b).toInt := by
    rw [List.getElem?_append_right (by omega), hl34]
    rfl
  have hib : (Int32.ofInt (b : Int)).toInt = (b : Int) := q_i32of (by omega) (by omega)
  refine qy_TP.pre (ρ' := ρ ++ [(fc 3 b).toInt]) (g' := (c.2.2.1.1 ++ [(lo, hi0)], c.2.2.1.2)) (w' := (hc_W c b).set 13 (.inr (.inr (.inr (0, 2, 2, [(.inl b, .inl lo)], []))))) (lo' := c.2.2.2.2.1) (st' := []) ?_
    (fun ws h => (((h.mono he).chg hw14 (fun q hq => qy_knw (i := Int32.ofInt (b : Int)) (qy_knl hib) (by rw [hib]; omega) (by rw [hib]; show _ < ((2 : Nat) : Int); omega) (qy_kns (by
      rw [hib, show (b : Int).toNat = b by omega]
      exact e34)) hq)).chg (i := 13) (by
        rw [List.getElem?_set_ne (by decide)]
        exact hw13) (fun q hq => qy_knw (i := Int32.ofInt (b : Int)) (qy_knl hib) (by rw [hib]; omega) (by rw [hib]; show _ < ((2 : Nat) : Int); omega) (qy_knl (by
      rw [hib, show (b : Int).toNat = b by omega, hlo]
      exact g1)) hq)))
    (fun h => h.snoc (by omega) (by omega)) (fun _ _ h => h.mono he) (fun _ h => h.mono he)
  refine (qs_lnk (Γ := qΓ1 fc) (p := 45) qv_nil hT hA rfl k0).bind ?_
  rintro fc' ρ' o ⟨E, hE, rfl, hγ, htk, hL⟩ - -
  obtain rfl := List.mem_singleton.mp hE
  have e : fc' = fc := hγ.1
  rw [e]
  refine ⟨fun rv hrv => (by cases hrv), fun q hq => ?_⟩
  cases hq
  refine loop _ 0 ρ' (Nat.zero_add _) ?_ ?_ ?_ ?_
  · rw [q_tk2 (q := 44) htk (by omega), List.take_append_of_le_length (by omega), List.take_of_length_le (by omega)]
  · rw [q_tk (i := 44) (q := 0) htk (by omega)]
    exact e34
  · exact hL.1 (45, .inl 0) List.mem_cons_self 0 rfl
  · refine (hL.1 (46, .inl lo) (List.mem_cons_of_mem _ List.mem_cons_self) (560 * (b : Int) + (0 : Nat)) ?_)
    show some lo = _
    rw [hlo]
    congr 1
end QHC
/-! hadBy(): by what is told of the bank -/
def hp_g (fc : Nat → Nat → Int32) (b : Nat) : Prop := (∀ j, j < 2 → 0 ≤ (fc 4 j).toInt ∧ (fc 4 j).toInt ≤ 7) ∧ ((fc 4 b).toInt % 2 = 1 → hc_g fc b)
def hb_c (c : qC) (b z : Int) : qC := (c.1, c.2.1, c.2.2.1, c.2.2.2.1.set 8 (.inr (.inr (.inr (0, 2, 4, [(.inl b, .inl z)], [])))), c.2.2.2.2.1, c.2.2.2.2.2)
noncomputable def hb_k (ct : List qC) (c : qC) (b : Int) (zs : List Int) : Bool := List.rec (motive := fun _ => Bool) true (fun z _ ih => cond (q_chk ct zx_xa0 100000 (hb_c c b z) [] []) ih false) zs
theorem hb_k_ok {ct : List qC} {c : qC} {b : Int} : ∀ {zs : List Int}, hb_k ct c b zs = true → ∀ z ∈ zs, q_chk ct zx_xa0 100000 (hb_c c b z) [] [] = true
  | [], _, z, hz => by cases hz
  | a :: zs, h, z, hz => by
    have h : cond (q_chk ct zx_xa0 100000 (hb_c c b a) [] []) (hb_k ct c b zs) false = true := h
    cases hb : q_chk ct zx_xa0 100000 (hb_c c b a) [] [] with
    | false => rw [hb] at h; cases h
    | true =>
      rw [hb] at h
      rcases List.mem_cons.mp hz with rfl | hz
      · exact hb
      · exact hb_k_ok h z hz
section QHD
variable {ex : Nat → Value} {Γ : qΓ} {D : va_G} {as : List Nat} {tys : List (ClassId × FieldType)}
theorem hb_had (hT : zk_t) (hA : zk_a) {b : Nat} (hb2 : b < 2) {c cm : qC} {ct : List qC} (hw8 : c.2.2.2.1[8]? = some (.inr (.inr (.inr (0, 2, 4, [], [])))))
    (hct : ∀ Γ : qΓ, ∀ c' ∈ ct, qy_V ex Γ D as tys c') (hcm : ∀ fc, hc_g fc b → qy_V ex (qΓ1 fc) D as tys cm) (ke : hb_k ct c b [0, 2, 4, 6] = true) (ko : hb_k (cm :: ct) c b [1, 3, 5, 7] = true) (hG : ∀ fc, Γ.1 fc → hp_g fc b) : qy_V ex Γ D as tys c := by
  refine qy_V.ofTP fun fc ρ hΓ => ?_
  obtain ⟨g1, g2⟩ := hG fc hΓ
  have hib : (Int32.ofInt (b : Int)).toInt = (b : Int) := q_i32of (by omega) (by omega)
  have main : ∀ (ct' : List qC), (∀ c' ∈ ct', qy_V ex (qΓ1 fc) D as tys c') → q_chk ct' zx_xa0 100000 (hb_c c b (fc 4 b).toInt) [] [] = true → qy_TP ex D as tys c.2.1 c.1 fc ρ c.2.2.1 c.2.2.2.1 c.2.2.2.2.1 [] 0 (qP_o Γ fc ρ (q_po c)) := by
    intro ct' hct' hk
    refine qy_TP.pre (ρ' := ρ) (g' := c.2.2.1) (w' := c.2.2.2.1.set 8 (.inr (.inr (.inr (0, 2, 4, [(.inl b, .inl (fc 4 b).toInt)], []))))) (lo' := c.2.2.2.2.1) (st' := []) ?_ (fun ws h => h.chg hw8 (fun q hq => qy_knw (i := Int32.ofInt (b : Int)) (qy_knl hib) (by rw [hib]; omega) (by rw [hib]; show _ < ((2 : Nat) : Int); omega) (qy_knl (by rw [hib, show (b : Int).toNat = b by omega])) hq)) (fun h => h) (fun _ _ h => h) (fun _ h => h)
    have hV : qy_V ex (qΓ1 fc) D as tys (hb_c c b (fc 4 b).toInt) := qs_chk hct' hT hA hk
    have hV2 : qy_T ex (qΓ1 fc) D as tys (c.2.1, c.1, []) c.2.2.1 (c.2.2.2.1.set 8 (.inr (.inr (.inr (0, 2, 4, [(.inl b, .inl (fc 4 b).toInt)], []))))) c.2.2.2.2.1 [] 0 (q_po c) := hV
    refine (hV2.TP (ρ := ρ) (fc := fc) rfl).post ?_
    rintro fc' ρ' o ⟨h1, h2, h3⟩
    have e : fc' = fc := h3.1
    rw [e]
    exact ⟨h1, h2, hΓ, fun _ _ => rfl⟩
  have hz := g1 b hb2
  have hpar : (fc 4 b).toInt % 2 = 0 ∨ (fc 4 b).toInt % 2 = 1 := by omega
  rcases hpar with h0 | h1
  · refine main ct (hct _) (hb_k_ok ke _ ?_)
    have : (fc 4 b).toInt = 0 ∨ (fc 4 b).toInt = 2 ∨ (fc 4 b).toInt = 4 ∨ (fc 4 b).toInt = 6 := by omega
    simpa using this
  · refine main (cm :: ct) (qv_cons (hcm fc (g2 h1)) (hct _)) (hb_k_ok ko _ ?_)
    have : (fc 4 b).toInt = 1 ∨ (fc 4 b).toInt = 3 ∨ (fc 4 b).toInt = 5 ∨ (fc 4 b).toInt = 7 := by omega
    simpa using this
end QHD
/-! keepAct(): the loop that shifts what is kept, by the rest of its index by 32 -/
def ka_T (c : qC) : qG := (c.2.2.1.1.set 20 (40, 40) ++ [(0, 1280)], c.2.2.1.2)
def ka_L (k : qV) : qL := [(0, .inr (.inr (.inl (some 0)))), (1, k)]
def ka_E (c : qC) (k : qV) : qEd := ((ka_T c, c.2.2.2.1, .inr (11, ka_L (.inr (.inl (45, 1, 0))), [])), [(45, k)], [])
noncomputable def ka_k0 (c : qC) : Bool := q_lgk [] 2000 45 c.1 c.2.1 [11] 0 c.2.2.1 c.2.2.2.1 c.2.2.2.2.1 [] (ka_E c (.inl 0) :: (q_po c).map fun o => (o, [], []))
noncomputable def ka_kx (c : qC) : Bool := q_lgk [] 2000 45 c.1 c.2.1 [11] 11 ((ka_T c).1.set 45 (1280, 1280), (ka_T c).2) c.2.2.2.1 (ka_L (.inr (.inl (45, 1, 0)))) [] ((q_po c).map fun o => (o, [], []))
noncomputable def ka_kr (c : qC) (rs : List Int) : Bool := List.rec (motive := fun _ => Bool) true (fun r _ ih => cond (q_lgk [] 2000 45 c.1 c.2.1 [11] 11 ((ka_T c).1 ++ [(0, 39)], (ka_T c).2) c.2.2.2.1 (ka_L (.inr (.inl (46, 32, r)))) [] [zx_i (Int.add r 1) fun r1 => ka_E c (.inr (.inl (46, 32, r1)))]) ih false) rs
theorem ka_kr_ok {c : qC} : ∀ {rs : List Int}, ka_kr c rs = true → ∀ r ∈ rs, q_lgk [] 2000 45 c.1 c.2.1 [11] 11 ((ka_T c).1 ++ [(0, 39)], (ka_T c).2) c.2.2.2.1 (ka_L (.inr (.inl (46, 32, r)))) [] [ka_E c (.inr (.inl (46, 32, r + 1)))] = true
  | [], _, r, hr => by cases hr
  | a :: rs, h, r, hr => by
    have h : cond (q_lgk [] 2000 45 c.1 c.2.1 [11] 11 ((ka_T c).1 ++ [(0, 39)], (ka_T c).2) c.2.2.2.1 (ka_L (.inr (.inl (46, 32, a)))) [] [zx_i (Int.add a 1) fun r1 => ka_E c (.inr (.inl (46, 32, r1)))]) (ka_kr c rs) false = true := h
    rw [zx_i_eq] at h
    cases hb : q_lgk [] 2000 45 c.1 c.2.1 [11] 11 ((ka_T c).1 ++ [(0, 39)], (ka_T c).2) c.2.2.2.1 (ka_L (.inr (.inl (46, 32, a)))) [] [ka_E c (.inr (.inl (46, 32, Int.add a 1)))] with
    | false => rw [hb] at h; cases h
    | true =>
      rw [hb] at h
      rcases List.mem_cons.mp hr with rfl | hr
      · exact hb
      · exact ka_kr_ok h r hr
section QHE
variable {ex : Nat → Value} {Γ : qΓ} {D : va_G} {as : List Nat} {tys : List (ClassId × FieldType)}
theorem ka_keep (hT : zk_t) (hA : zk_a) {c : qC} (hlen : c.2.2.1.1.length = 45) (hlo : c.2.2.2.2.1 = [(0, .inr (.inr (.inl (some 0))))]) (k0 : ka_k0 c = true) (kx : ka_kx c = true) (kr : ka_kr c [0, 1, 2, 3, 4, 5, 6, 7, 8, 9, 10, 11, 12, 13, 14, 15, 16, 17, 18, 19, 20, 21, 22, 23, 24, 25, 26, 27, 28, 29, 30, 31] = true) : qy_V ex Γ D as tys c := by
  refine qy_V.ofTP fun fc ρ hΓ => ?_
  refine qy_TP.intro fun hws hgρ => ?_
  have hl35 : ρ.length = 45 := by rw [← hgρ.1]; exact hlen
  have loop : ∀ (r : Nat) (kk : Nat) (ρ1 : List Int), kk + r = 1280 → ρ1.take 45 = ρ → ρ1[45]? = some (kk : Int) → qy_TP ex D as tys c.2.1 c.1 fc ρ1 (ka_T c) c.2.2.2.1 (ka_L (.inr (.inl (45, 1, 0)))) [] 11 (qP_o Γ fc ρ (q_po c)) := by
    intro r
    induction r with
    | zero =>
      intro kk ρ1 hk ht h35
      refine qy_TP.pre (ρ' := ρ1) (g' := ((ka_T c).1.set 45 (1280, 1280), (ka_T c).2)) (w' := c.2.2.2.1) (lo' := ka_L (.inr (.inl (45, 1, 0)))) (st' := []) ?_ (fun ws h => h) (fun h => h.nar h35 (by omega) (by omega)) (fun _ _ h => h) (fun _ h => h)
      refine (qs_lnk (Γ := qΓ1 fc) (ρ := ρ1) (p := 45) qv_nil hT hA rfl kx).post ?_
      rintro fc' ρ' o ⟨E, hE, rfl, hγ, htk, -⟩
      obtain ⟨o', ho', rfl⟩ := List.mem_map.mp hE
      have e : fc' = fc := hγ.1
      rw [e]
      refine ⟨ho', ⟨ρ'.drop 45, ?_⟩, hΓ, fun _ _ => rfl⟩
      rw [← ht, ← htk, List.take_append_drop]
    | succ r ih =>
      intro kk ρ1 hk ht h35
      refine qy_TP.intro fun _ hg1 => ?_
      have hl36 : ρ1.length = 46 := by
        rw [← hg1.1]
        show (c.2.2.1.1.set 20 (40, 40) ++ [(0, 1280)]).length = 46
        rw [List.length_append, List.length_set, hlen]
        rfl
      have he : qe ρ1 (ρ1 ++ [((kk / 32 : Nat) : Int)]) := ⟨_, rfl⟩
      have e36 : (ρ1 ++ [((kk / 32 : Nat) : Int)])[46]? = some ((kk / 32 : Nat) : Int) := by
        rw [List.getElem?_append_right (by omega), hl36]
        rfl
      have hd := Nat.div_add_mod kk 32
      have hm := Nat.mod_lt kk (show 32 > 0 by decide)
      refine qy_TP.pre (ρ' := ρ1 ++ [((kk / 32 : Nat) : Int)]) (g' := ((ka_T c).1 ++ [(0, 39)], (ka_T c).2)) (w' := c.2.2.2.1) (lo' := ka_L (.inr (.inl (46, 32, ((kk % 32 : Nat) : Int))))) (st' := []) ?_ (fun ws h => h.mono he) (fun h => h.snoc (by omega) (by omega)) (fun ls nL h => ⟨h.1, h.2.1, fun q hq => ?_⟩) (fun _ h => h.mono he)
      · have hmem : ((kk % 32 : Nat) : Int) ∈ ([0, 1, 2, 3, 4, 5, 6, 7, 8, 9, 10, 11, 12, 13, 14, 15, 16, 17, 18, 19, 20, 21, 22, 23, 24, 25, 26, 27, 28, 29, 30, 31] : List Int) := by
          have : ∀ i : Nat, i < 32 → ((i : Nat) : Int) ∈ ([0, 1, 2, 3, 4, 5, 6, 7, 8, 9, 10, 11, 12, 13, 14, 15, 16, 17, 18, 19, 20, 21, 22, 23, 24, 25, 26, 27, 28, 29, 30, 31] : List Int) := by decide
          exact this _ hm
        refine (qs_lnk (Γ := qΓ1 fc) (p := 45) qv_nil hT hA rfl (ka_kr_ok kr _ hmem)).bind ?_
        rintro fc' ρ' o ⟨E, hE, rfl, hγ, htk, hL⟩ - -
        obtain rfl := List.mem_singleton.mp hE
        have e : fc' = fc := hγ.1
        rw [e]
        refine ⟨fun rv hrv => (by cases hrv), fun q hq => ?_⟩
        cases hq
        refine ih (kk + 1) ρ' (by omega) ?_ ?_
        · rw [htk, List.take_append_of_le_length (by omega)]
          exact ht
        · refine hL.1 (45, .inr (.inl (46, 32, ((kk % 32 : Nat) : Int) + 1))) List.mem_cons_self _ ?_
          show ((ρ1 ++ [((kk / 32 : Nat) : Int)])[46]?).map (fun r => 32 * r + (((kk % 32 : Nat) : Int) + 1)) = _
          rw [e36]
          show some (32 * ((kk / 32 : Nat) : Int) + (((kk % 32 : Nat) : Int) + 1)) = _
          congr 1
          omega
      · rcases List.mem_cons.mp hq with rfl | hq
        · obtain ⟨v, v1, v2⟩ := h.2.2 (0, .inr (.inr (.inl (some 0)))) List.mem_cons_self
          exact ⟨v, v1, v2.mono he⟩
        · rcases List.mem_cons.mp hq with rfl | hq
          · obtain ⟨v, v1, x, z, x1, x2, x3⟩ := h.2.2 (1, .inr (.inl (45, 1, 0))) (List.mem_cons_of_mem _ List.mem_cons_self)
            have x2 : ρ1[45]? = some z := x2
            have x3 : x.toInt = 1 * z + 0 := x3
            rw [h35] at x2
            have x2 : (kk : Int) = z := Option.some.inj x2
            refine ⟨v, v1, x, ((kk / 32 : Nat) : Int), x1, e36, ?_⟩
            show x.toInt = 32 * ((kk / 32 : Nat) : Int) + ((kk % 32 : Nat) : Int)
            omega
          · cases hq
  refine (qs_lnk (Γ := qΓ1 fc) (p := 45) qv_nil hT hA rfl k0).bind ?_
  rintro fc' ρ' o ⟨E, hE, rfl, hγ, htk, hL⟩ - -
  have e : fc' = fc := hγ.1
  rw [e]
  have ht : ρ'.take 45 = ρ := by rw [htk, List.take_of_length_le (by omega)]
  rcases List.mem_cons.mp hE with rfl | hE
  · refine ⟨fun rv hrv => (by cases hrv), fun q hq => ?_⟩
    cases hq
    exact loop 1280 0 ρ' (by omega) ht (hL.1 (45, .inl 0) List.mem_cons_self 0 rfl)
  · obtain ⟨o', ho', rfl⟩ := List.mem_map.mp hE
    refine ⟨fun rv hrv => ⟨ho', ⟨ρ'.drop 45, ?_⟩, hΓ, fun _ _ => rfl⟩, fun q hq => ?_⟩
    · rw [← ht, List.take_append_drop]
    · obtain ⟨t, -, rfl⟩ := List.mem_map.mp ho'
      cases hq
end QHE
