/-! nodes: a checked table gives the contract -/
def q_S (ρ : List Int) : List (Int × Nat) → Int
  | [] => 0
  | q :: r => q.1 * ρ.getD q.2 0 + q_S ρ r
theorem q_S_ext {ρ ρ' : List Int} (h : qe ρ ρ') : ∀ {l : List (Int × Nat)}, q_ms ρ.length l = true → q_S ρ' l = q_S ρ l
  | [], _ => rfl
  | q :: r, hm => by
    have hm : cond (Nat.ble (Nat.succ q.2) ρ.length) (q_ms ρ.length r) false = true := hm
    cases hb : Nat.ble (Nat.succ q.2) ρ.length with
    | false => rw [hb] at hm; cases hm
    | true =>
      rw [hb] at hm
      have hl : q.2 < ρ.length := Nat.le_of_ble_eq_true hb
      have e1 : ρ[q.2]? = some (ρ[q.2]'hl) := List.getElem?_eq_getElem hl
      have e2 := h.at e1
      show q.1 * ρ'.getD q.2 0 + q_S ρ' r = q.1 * ρ.getD q.2 0 + q_S ρ r
      rw [q_S_ext h (l := r) hm, List.getD_eq_getElem?_getD, List.getD_eq_getElem?_getD, e1, e2]
section QCK
variable {ρ : List Int} {ex : Nat → Value} {fc : Nat → Nat → Int32} {D : va_G} {as : List Nat} {tys : List (ClassId × FieldType)} {g : qG} {o : List qO} {p : Nat}
theorem q_ad_ok {a : Int} {i : Nat} : ∀ {l : List (Int × Nat)}, q_S ρ (q_ad a i l) = q_S ρ l + a * ρ.getD i 0
  | [] => by
    show a * ρ.getD i 0 + 0 = 0 + a * ρ.getD i 0
    omega
  | q :: t => by
    show q_S ρ (cond (Nat.beq q.2 i) (zx_i (Int.add q.1 a) fun b => (b, i) :: t) (q :: q_ad a i t)) = q.1 * ρ.getD q.2 0 + q_S ρ t + a * ρ.getD i 0
    cases hb : Nat.beq q.2 i with
    | true =>
      have e := Nat.eq_of_beq_eq_true hb
      rw [cond_true, zx_i_eq]
      show (q.1 + a) * ρ.getD i 0 + q_S ρ t = q.1 * ρ.getD q.2 0 + q_S ρ t + a * ρ.getD i 0
      rw [e, Int.add_mul]
      omega
    | false =>
      rw [cond_false]
      show q.1 * ρ.getD q.2 0 + q_S ρ (q_ad a i t) = q.1 * ρ.getD q.2 0 + q_S ρ t + a * ρ.getD i 0
      rw [q_ad_ok (l := t)]
      omega
theorem q_lw_ok (hg : qy_g ρ g) {k : Int → qR} : ∀ {l : List (Int × Nat)} {c : Int}, q_lw g.1 c l k = some o → ∃ m, k m = some o ∧ m ≤ c + q_S ρ l
  | [], c, h => ⟨c, h, (show c ≤ c + 0 by omega)⟩
  | q :: r, c, h => by
    obtain ⟨u, u1, u2⟩ := q_at_ok (show q_at g.1 (fun r' => zx_i (Int.add c (q_tm q.1 r'.1 r'.2)) fun c => q_lw g.1 c r k) q.2 = some o from h)
    rw [zx_i_eq] at u2
    obtain ⟨x, x1, x2, x3⟩ := hg.2.1 q.2 u u1
    obtain ⟨m, m1, m2⟩ := q_lw_ok hg (l := r) u2
    refine ⟨m, m1, ?_⟩
    have t := q_tm_ok (a := q.1) x2 x3
    have e : ρ.getD q.2 0 = x := by rw [List.getD_eq_getElem?_getD, x1]; rfl
    have m2 : m ≤ c + q_tm q.1 u.1 u.2 + q_S ρ r := m2
    show m ≤ c + (q.1 * ρ.getD q.2 0 + q_S ρ r)
    rw [e]
    omega
theorem q_dm_ok (hp : p ≤ ρ.length) {sg : List qV} {vals : List Int} (hF : qM_fin ρ sg vals) : ∀ {l : List (Int × Nat)} {c : Int} {acc : List (Int × Nat)} {k : Int → List (Int × Nat) → qR}, q_dm p sg l c acc k = some o → ∃ c' acc', k c' acc' = some o ∧ c' + q_S ρ acc' = c + q_S ρ acc - q_S (ρ.take p ++ vals) l
  | [], c, acc, k, h => ⟨c, acc, h, (show c + q_S ρ acc = c + q_S ρ acc - 0 by omega)⟩
  | q :: r, c, acc, k, h => by
    obtain ⟨v, z, h1, h2, h3⟩ := q_sy_ok hp hF (show q_sy p sg q.2 (fun v => match v with
      | .inl z => zx_i (Int.sub c (Int.mul q.1 z)) fun c => q_dm p sg r c acc k
      | .inr (.inl (s, c2, d2)) => zx_i (Int.sub c (Int.mul q.1 d2)) fun c => zx_i (Int.neg (Int.mul q.1 c2)) fun a => q_dm p sg r c (q_ad a s acc) k
      | _ => none) = some o from h)
    have e : (ρ.take p ++ vals).getD q.2 0 = z := by rw [List.getD_eq_getElem?_getD, h3]; rfl
    match v, h1, h2 with
    | .inl y, h1, h2 =>
      have h1 : zx_i (Int.sub c (Int.mul q.1 y)) (fun c => q_dm p sg r c acc k) = some o := h1
      rw [zx_i_eq] at h1
      have ey : y = z := Option.some.inj h2
      obtain ⟨c', acc', k1, k2⟩ := q_dm_ok hp hF (l := r) h1
      refine ⟨c', acc', k1, ?_⟩
      have k2 : c' + q_S ρ acc' = c - q.1 * y + q_S ρ acc - q_S (ρ.take p ++ vals) r := k2
      show c' + q_S ρ acc' = c + q_S ρ acc - (q.1 * (ρ.take p ++ vals).getD q.2 0 + q_S (ρ.take p ++ vals) r)
      rw [e, ← ey]
      omega
    | .inr (.inl (s, c2, d2)), h1, h2 =>
      have h1 : zx_i (Int.sub c (Int.mul q.1 d2)) (fun c => zx_i (Int.neg (Int.mul q.1 c2)) fun a => q_dm p sg r c (q_ad a s acc) k) = some o := h1
      rw [zx_i_eq, zx_i_eq] at h1
      have h2 : (ρ[s]?).map (fun r => c2 * r + d2) = some z := h2
      cases hs : ρ[s]? with
      | none => rw [hs] at h2; cases h2
      | some rs =>
        rw [hs] at h2
        have ez : c2 * rs + d2 = z := Option.some.inj h2
        have es : ρ.getD s 0 = rs := by rw [List.getD_eq_getElem?_getD, hs]; rfl
        obtain ⟨c', acc', k1, k2⟩ := q_dm_ok hp hF (l := r) h1
        refine ⟨c', acc', k1, ?_⟩
        rw [q_ad_ok, es] at k2
        have k2 : c' + q_S ρ acc' = c - q.1 * d2 + (q_S ρ acc + -(q.1 * c2) * rs) - q_S (ρ.take p ++ vals) r := k2
        show c' + q_S ρ acc' = c + q_S ρ acc - (q.1 * (ρ.take p ++ vals).getD q.2 0 + q_S (ρ.take p ++ vals) r)
        rw [e, ← ez, Int.mul_add, ← Int.mul_assoc]
        rw [Int.neg_mul] at k2
        omega
theorem q_fl_ok (hp : p ≤ ρ.length) (hg : qy_g ρ g) {sg : List qV} {vals : List Int} (hF : qM_fin ρ sg vals) {ms mt : qM} (h : q_fl p g sg ms mt = some o) : 1 ≤ ms.1 + q_S ρ ms.2 ∧ mt.1 + q_S (ρ.take p ++ vals) mt.2 + 1 ≤ ms.1 + q_S ρ ms.2 := by
  obtain ⟨m, m1, m2⟩ := q_lw_ok hg h
  obtain ⟨b1, m1⟩ := q_cond m1
  have b1 := q_le_iff.mp b1
  obtain ⟨c, l, d1, d2⟩ := q_dm_ok hp hF m1
  obtain ⟨m', e1, e2⟩ := q_lw_ok hg d1
  obtain ⟨b2, -⟩ := q_cond e1
  have b2 := q_le_iff.mp b2
  have d2 : c + q_S ρ l = ms.1 - mt.1 + q_S ρ ms.2 - q_S (ρ.take p ++ vals) mt.2 := d2
  omega
theorem q_all_ok {f : qO → qR} : ∀ {l : List qO}, q_all f l = true → ∀ z ∈ l, ∃ r, f z = some r
  | [], _, z, hz => by cases hz
  | a :: l, h, z, hz => by
    have h : (match f a with
      | some _ => q_all f l
      | none => false) = true := h
    cases hf : f a with
    | none => rw [hf] at h; cases h
    | some r =>
      rw [hf] at h
      rcases List.mem_cons.mp hz with rfl | hz
      · exact ⟨r, hf⟩
      · exact q_all_ok h z hz
theorem q_okR_ok {f : qO → qR} {r : qR} (h : q_okR f r = true) : ∃ l, r = some l ∧ ∀ z ∈ l, ∃ x, f z = some x := by
  cases r with
  | none => cases h
  | some l => exact ⟨l, rfl, q_all_ok h⟩
theorem q_chn_ok {f : qN → Bool} : ∀ {l : List qN}, q_chn f l = true → ∀ n ∈ l, f n = true
  | [], _, n, hn => by cases hn
  | a :: l, h, n, hn => by
    have h : cond (f a) (q_chn f l) false = true := h
    cases hf : f a with
    | false => rw [hf] at h; cases h
    | true =>
      rw [hf] at h
      rcases List.mem_cons.mp hn with rfl | hn
      · exact hf
      · exact q_chn_ok h n hn
theorem q_lp_ok (hex : ∀ j, ex j = .null ∨ ∃ a, ex j = .ref a) (hp : p ≤ ρ.length) {z : qO} (hg : qy_g ρ z.1) {rv : Option qV} : ∀ {l : List (qG × List qE × Option qV)} {x : List qO}, q_lp p z rv l = some x → ∃ c ∈ l, ∃ sg vals, qM_res ρ ex fc as tys p c.1 c.2.1 [] [] c.2.2 z.2.1 [] [] rv sg vals
  | [], x, h => by cases h
  | c :: l, x, h => by
    rcases q_mt_ok (fc := fc) (tys := tys) (as := as) hex hp hg (show q_mt p c.1 c.2.1 [] [] c.2.2 z.1 z.2.1 [] [] rv (fun _ => some []) (q_lp p z rv l) = some x from h) with ⟨sg, vals, h1, -⟩ | h1
    · exact ⟨c, List.mem_cons_self, sg, vals, h1⟩
    · obtain ⟨c', c1, c2⟩ := q_lp_ok hex hp hg h1
      exact ⟨c', List.mem_cons_of_mem _ c1, c2⟩
theorem q_ln2_ok (hex : ∀ j, ex j = .null ∨ ∃ a, ex j = .ref a) (hp : p ≤ ρ.length) {z : qO} (hg : qy_g ρ z.1) {pc : Nat} {lo : qL} {st : List qV} {ms : Option qM} : ∀ {l : List qN} {x : List qO}, q_ln2 p z pc lo st ms l = some x → ∃ c ∈ l, c.1 = pc ∧ ∃ sg vals, qM_res ρ ex fc as tys p c.2.1 c.2.2.1 c.2.2.2.1 c.2.2.2.2.1 none z.2.1 lo st none sg vals ∧ ∀ m, ms = some m → 1 ≤ m.1 + q_S ρ m.2 ∧ c.2.2.2.2.2.1 + q_S (ρ.take p ++ vals) c.2.2.2.2.2.2 + 1 ≤ m.1 + q_S ρ m.2
  | [], x, h => by cases h
  | c :: l, x, h => by
    have rest : q_ln2 p z pc lo st ms l = some x → ∃ c' ∈ c :: l, c'.1 = pc ∧ ∃ sg vals, qM_res ρ ex fc as tys p c'.2.1 c'.2.2.1 c'.2.2.2.1 c'.2.2.2.2.1 none z.2.1 lo st none sg vals ∧ ∀ m, ms = some m → 1 ≤ m.1 + q_S ρ m.2 ∧ c'.2.2.2.2.2.1 + q_S (ρ.take p ++ vals) c'.2.2.2.2.2.2 + 1 ≤ m.1 + q_S ρ m.2 := fun hh => by
      obtain ⟨c', c1, c2⟩ := q_ln2_ok hex hp hg (l := l) hh
      exact ⟨c', List.mem_cons_of_mem _ c1, c2⟩
    cases ms with
    | none =>
      rcases q_if (show cond (Nat.beq c.1 pc) (q_mt p c.2.1 c.2.2.1 c.2.2.2.1 c.2.2.2.2.1 none z.1 z.2.1 lo st none (fun _ => some []) (q_ln2 p z pc lo st none l)) (q_ln2 p z pc lo st none l) = some x from h) with ⟨hb, h1⟩ | ⟨hb, h1⟩
      · rcases q_mt_ok (fc := fc) (tys := tys) (as := as) hex hp hg h1 with ⟨sg, vals, h2, h3⟩ | h2
        · exact ⟨c, List.mem_cons_self, Nat.eq_of_beq_eq_true hb, sg, vals, h2, fun m hm => by cases hm⟩
        · exact rest h2
      · exact rest h1
    | some m0 =>
      rcases q_if (show cond (Nat.beq c.1 pc) (q_mt p c.2.1 c.2.2.1 c.2.2.2.1 c.2.2.2.2.1 none z.1 z.2.1 lo st none (fun sg => q_fl p z.1 sg m0 c.2.2.2.2.2) (q_ln2 p z pc lo st (some m0) l)) (q_ln2 p z pc lo st (some m0) l) = some x from h) with ⟨hb, h1⟩ | ⟨hb, h1⟩
      · rcases q_mt_ok (fc := fc) (tys := tys) (as := as) hex hp hg h1 with ⟨sg, vals, h2, h3⟩ | h2
        · refine ⟨c, List.mem_cons_self, Nat.eq_of_beq_eq_true hb, sg, vals, h2, fun m hm => ?_⟩
          cases hm
          exact q_fl_ok hp hg h2.1 h3
        · exact rest h2
      · exact rest h1
end QCK
