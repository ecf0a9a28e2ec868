/-! from the first executor's picture to the second's; the law's loop; its start -/
def hb_v (off : Nat) (v : zx_V) : qV := match v with
  | .inl n => .inl (zx_s n)
  | .inr (.inl none) => .inr (.inr (.inl none))
  | .inr (.inl (some k)) => .inr (.inr (.inl (some (k - off))))
  | .inr (.inr (.inl n)) => .inr (.inr (.inr (.inr (.inl (Int64.ofNat n).toInt))))
  | .inr (.inr (.inr (.inl _))) => .inr (.inr (.inr (.inr (.inr (.inr (.inl ()))))))
  | .inr (.inr (.inr (.inr (.inl j)))) => .inr (.inr (.inr (.inl j)))
  | .inr (.inr (.inr (.inr (.inr _)))) => .inr (.inr (.inr (.inr (.inr (.inr (.inl ()))))))
def hb_rf (off n : Nat) (v : zx_V) : Bool := match v with
  | .inr (.inl (some k)) => Nat.ble off k && Nat.ble (Nat.succ k) (Nat.add off n)
  | _ => true
def hb_e (off : Nat) (e : zx_E) : qE := match e with
  | .inl q => cond (Nat.beq q.1 3) (.inr (.inr (.inl (3, q.2.length, [(1, .negSucc 9223372036854775807, .ofNat 9223372036854775807)], [])))) (.inl (q.1, q.2.map (hb_v off)))
  | .inr q => .inr (.inl (q.1, q.2.map (hb_v off)))
def hb_er (off n : Nat) (e : zx_E) : Bool := match e with
  | .inl q => q.2.all (hb_rf off n)
  | .inr q => q.2.all (hb_rf off n)
section HB
variable {ρ : Nat → Int32} {ex : Nat → Value} {as : List Nat} {tys : List (ClassId × FieldType)} {fc : Nat → Nat → Int32} {off n : Nat}
theorem hb_at {α : Type} {l : List α} {k : Nat} (hk : k < n) : ((l.drop off).take n)[k]? = l[off + k]? := by
  rw [List.getElem?_take, if_pos hk, List.getElem?_drop]
theorem hb_v_ok {a : zx_V} {v : Value} (h : zy_v ρ ex as a v) (hr : hb_rf off n a = true) : qy_v [] ex ((as.drop off).take n) (hb_v off a) v := by
  match a, h, hr with
  | .inl m, h, _ => exact ⟨_, h, zy_toInt m⟩
  | .inr (.inl none), h, _ => exact h
  | .inr (.inl (some k)), ⟨q, h1, h2⟩, hr =>
    obtain ⟨r1, r2⟩ := Bool.and_eq_true_iff.mp hr
    have r1 : off ≤ k := Nat.le_of_ble_eq_true r1
    have r2 : k + 1 ≤ off + n := Nat.le_of_ble_eq_true r2
    refine ⟨q, ?_, h2⟩
    rw [hb_at (by omega), show off + (k - off) = k by omega]
    exact h1
  | .inr (.inr (.inl m)), h, _ => exact ⟨_, h, rfl⟩
  | .inr (.inr (.inr (.inl i))), h, _ => exact ⟨_, h⟩
  | .inr (.inr (.inr (.inr (.inl j)))), h, _ => exact h
  | .inr (.inr (.inr (.inr (.inr _)))), h, _ => exact h
theorem hb_s_ok : ∀ {l : List zx_V} {t : List Value}, zy_s ρ ex as l t → l.all (hb_rf off n) = true → qy_s [] ex ((as.drop off).take n) (l.map (hb_v off)) t
  | [], [], _, _ => trivial
  | a :: r, v :: t, ⟨h1, h2⟩, h => by
    obtain ⟨k1, k2⟩ := Bool.and_eq_true_iff.mp (show (hb_rf off n a && r.all (hb_rf off n)) = true from h)
    exact ⟨hb_v_ok h1 k1, hb_s_ok h2 k2⟩
theorem hb_e_ok {e : zx_E} {q : va_E} (h : zy_e ρ ex tys as e q) (hr : hb_er off n e = true) : qy_e [] ex fc tys ((as.drop off).take n) (hb_e off e) q := by
  match e, q, h, hr with
  | .inl (t, vs), .inl (cA, m, .inl f), ⟨h1, h2, h3, h4⟩, hr =>
    have hb : Nat.beq t 3 = false := by
      cases hq : Nat.beq t 3 with
      | false => rfl
      | true => have := Nat.eq_of_beq_eq_true hq; omega
    show qy_e [] ex fc tys _ (cond (Nat.beq t 3) _ (.inl (t, vs.map (hb_v off)))) _
    rw [hb]
    refine ⟨h1, h2, by rw [List.length_map]; exact h3, fun j a ha => ?_⟩
    rw [List.getElem?_map] at ha
    cases hz : vs[j]? with
    | none => rw [hz] at ha; cases ha
    | some z =>
      rw [hz] at ha
      have ha : hb_v off z = a := Option.some.inj ha
      rw [← ha]
      exact hb_v_ok (h4 j z hz) (List.all_eq_true.mp hr z (List.mem_of_getElem? hz))
  | .inl (t, vs), .inl (cA, m, .inr (.inl f)), ⟨h1, h2, h3, h4⟩, hr =>
    subst h1
    exact ⟨rfl, h2, h3, rfl⟩
  | .inr (c, fs), .inr (c', gs), ⟨h1, h2⟩, hr => exact ⟨h1, hb_s_ok h2 hr⟩
theorem hb_w_ok {w : zx_Wd} {ws : va_W} (h : zy_w ρ ex tys as w ws) (hn : off + n ≤ w.length) (hr : ((w.drop off).take n).all (hb_er off n) = true) : qy_w [] ex fc tys ((as.drop off).take n) (((w.drop off).take n).map (hb_e off)) ((ws.drop off).take n) := by
  refine ⟨?_, ?_, fun k e hk => ?_⟩
  · rw [List.length_map, List.length_take, List.length_take, List.length_drop, List.length_drop, h.1]
  · rw [List.length_map, List.length_take, List.length_take, List.length_drop, List.length_drop, h.2.1]
  · rw [List.getElem?_map] at hk
    cases hz : ((w.drop off).take n)[k]? with
    | none => rw [hz] at hk; cases hk
    | some z =>
      rw [hz] at hk
      have hk : hb_e off z = e := Option.some.inj hk
      have hkn : k < n := by
        have := (List.getElem?_eq_some_iff.mp hz).1
        rw [List.length_take] at this
        omega
      have hz2 := hz
      rw [hb_at hkn] at hz2
      obtain ⟨q, a, h1, h2, h3⟩ := h.2.2 (off + k) z hz2
      refine ⟨q, a, by rw [hb_at hkn]; exact h1, by rw [hb_at hkn]; exact h2, ?_⟩
      rw [← hk]
      exact hb_e_ok h3 (List.all_eq_true.mp hr z (List.mem_of_getElem? hz))
/-- an array of zeros is the ghost of zeros -/
theorem hb_gh {as : List Nat} {t N κ : Nat} {q : va_E} (hf : ∀ j, fc κ j = 0) (h : qy_e [] ex fc tys as (.inl (t, (List.replicate N (.inl 0)).map (hb_v off))) q) : qy_e [] ex fc tys as (.inr (.inr (.inr (t, N, κ, [], [])))) q := by
  match q, h with
  | .inl (cA, m, .inl f), ⟨h1, h2, h3, h4⟩ =>
    have h3 : m = N := by rw [List.length_map, List.length_replicate] at h3; exact h3
    refine ⟨h1, h2, h3, fun u hu => (by cases hu), fun j hj => ?_⟩
    obtain ⟨x, e1, e2⟩ := h4 j (.inl (zx_s 0)) (by rw [List.getElem?_map, List.getElem?_replicate, if_pos hj]; rfl)
    cases e1
    rw [hf]
    apply Int32.toInt_inj.mp
    rw [e2]
    rfl
end HB
noncomputable def hb_C : List qE := ((zx_w0.drop 0).take 73).map (hb_e 0)
noncomputable def hb_R0 : List qE := ((zx_w0.drop 73).take 36).map (hb_e 73)
noncomputable def hb_R : List qE := (((((hb_R0.set 8 (.inr (.inr (.inr (0, 2, 4, [], []))))).set 13 (.inr (.inr (.inr (0, 2, 2, [], []))))).set 14 (.inr (.inr (.inr (0, 2, 3, [], []))))).set 17 (.inr (.inr (.inr (0, 1120, 0, [], []))))).set 19 (.inr (.inr (.inr (0, 90, 5, [], []))))).set 20 (.inr (.inr (.inr (0, 90, 6, [], []))))
set_option maxRecDepth 100000 in
theorem hb_cC : (match q_lde 0 (([], []), hb_C, .inl none) [((zIA.1, zIA.2, .inl none), [(42, .inl 0)], [])] with
    | some _ => true
    | none => false) = true := by decide +kernel
set_option maxRecDepth 100000 in
theorem hb_cR : (match q_lde 0 (([], []), hb_R, .inl none) [((zI0.1, zI0.2, .inl none), [(23, .inl 0)], [])] with
    | some _ => true
    | none => false) = true := by decide +kernel
set_option maxRecDepth 100000 in
theorem hb_rC : ((zx_w0.drop 0).take 73).all (hb_er 0 73) = true := by decide +kernel
set_option maxRecDepth 100000 in
theorem hb_rR : ((zx_w0.drop 73).take 36).all (hb_er 73 36) = true := by decide +kernel
set_option maxRecDepth 100000 in
theorem hb_len : zx_w0.length = 109 := by decide +kernel
section HB2
variable {ρ : Nat → Int32} {ex : Nat → Value} {as : List Nat} {tys : List (ClassId × FieldType)}
set_option maxRecDepth 100000 in
theorem hb_KC (hex : ∀ j, ex j = .null ∨ ∃ a, ex j = .ref a) {ws : va_W} (h : zy_w ρ ex tys as zx_w0 ws) : zKC ex ((as.drop 0).take 73) tys 0 ((ws.drop 0).take 73) := by
  have h1 := hb_w_ok (fc := fun _ _ => 0) (off := 0) (n := 73) h (by rw [hb_len]; omega) hb_rC
  obtain ⟨ρ2, hL, g2, w2⟩ := hl_conv (fc := fun _ _ => 0) (tys := tys) (as := (as.drop 0).take 73) (I := zIA) (G := ([], [])) (W := hb_C) (lk := ([(42, .inl 0)], [])) (ρ := []) hex hb_cC ⟨rfl, fun i q hq => by simp at hq, fun f hf => by cases hf⟩
  exact Or.inl ⟨fun _ _ => 0, ρ2, trivial, w2 _ h1, g2, hL.l List.mem_cons_self⟩
set_option maxRecDepth 100000 in
theorem hb_KR (hex : ∀ j, ex j = .null ∨ ∃ a, ex j = .ref a) {ws : va_W} (h : zy_w ρ ex tys as zx_w0 ws) : zKR ex ((as.drop 73).take 36) tys 0 ((ws.drop 73).take 36) := by
  have h1 : qy_w [] ex (fun _ _ => 0) tys ((as.drop 73).take 36) hb_R0 ((ws.drop 73).take 36) := hb_w_ok (off := 73) (n := 36) h (by rw [hb_len]; omega) hb_rR
  have h2 := h1.chg (i := 8) (e := .inl (0, (List.replicate 2 (.inl 0)).map (hb_v 73))) (e' := .inr (.inr (.inr (0, 2, 4, [], [])))) rfl (fun q hq => hb_gh (fun _ => rfl) hq)
  have h3 := h2.chg (i := 13) (e := .inl (0, (List.replicate 2 (.inl 0)).map (hb_v 73))) (e' := .inr (.inr (.inr (0, 2, 2, [], [])))) rfl (fun q hq => hb_gh (fun _ => rfl) hq)
  have h4 := h3.chg (i := 14) (e := .inl (0, (List.replicate 2 (.inl 0)).map (hb_v 73))) (e' := .inr (.inr (.inr (0, 2, 3, [], [])))) rfl (fun q hq => hb_gh (fun _ => rfl) hq)
  have h5 := h4.chg (i := 17) (e := .inl (0, (List.replicate 1120 (.inl 0)).map (hb_v 73))) (e' := .inr (.inr (.inr (0, 1120, 0, [], [])))) rfl (fun q hq => hb_gh (fun _ => rfl) hq)
  have h6 := h5.chg (i := 19) (e := .inl (0, (List.replicate 90 (.inl 0)).map (hb_v 73))) (e' := .inr (.inr (.inr (0, 90, 5, [], [])))) rfl (fun q hq => hb_gh (fun _ => rfl) hq)
  have h7 := h6.chg (i := 20) (e := .inl (0, (List.replicate 90 (.inl 0)).map (hb_v 73))) (e' := .inr (.inr (.inr (0, 90, 6, [], [])))) rfl (fun q hq => hb_gh (fun _ => rfl) hq)
  obtain ⟨ρ2, hL, g2, w2⟩ := hl_conv (fc := fun _ _ => 0) (tys := tys) (as := (as.drop 73).take 36) (I := zI0) (G := ([], [])) (W := hb_R) (lk := ([(23, .inl 0)], [])) (ρ := []) hex hb_cR ⟨rfl, fun i q hq => by simp at hq, fun f hf => by cases hf⟩
  refine Or.inl ⟨fun _ _ => 0, ρ2, ⟨fun j _ => ⟨by show (0 : Int) ≤ (0 : Int32).toInt; decide, by show (0 : Int32).toInt ≤ 7; decide⟩, fun ho => absurd ho (by show ¬ (0 : Int32).toInt % 2 = 1; decide)⟩, w2 _ h7, g2, hL.l List.mem_cons_self⟩
theorem hb_P {D : va_G} {cl : List vw_C} {ws : va_W} {H : Heap} {off n : Nat} (h : va_P D cl ws H) : va_P D cl ((ws.drop off).take n) H := fun k q hk => by
  rw [List.getElem?_take] at hk
  split at hk
  · rw [List.getElem?_drop] at hk; exact h _ q hk
  · cases hk
theorem hb_ix {α : Type} {l : List α} {off n k : Nat} {x : α} (h : ((l.drop off).take n)[k]? = some x) : k < n ∧ l[off + k]? = some x := by
  rw [List.getElem?_take] at h
  split at h
  · rename_i hk; rw [List.getElem?_drop] at h; exact ⟨hk, h⟩
  · cases h
theorem hb_D {A : Nat → Prop} {ws : va_W} {off n : Nat} (h : va_D A ws) : va_D A ((ws.drop off).take n) := ⟨fun i j p q hp hq e => by
    obtain ⟨_, hp⟩ := hb_ix hp
    obtain ⟨_, hq⟩ := hb_ix hq
    have := h.1 _ _ p q hp hq e
    omega, fun k q hk => h.2 _ q (hb_ix hk).2⟩
theorem hb_dis {A : Nat → Prop} {ws : va_W} (h : va_D A ws) : hl_dis ((ws.drop 0).take 73) ((ws.drop 73).take 36) := fun i j p q hp hq e => by
  obtain ⟨h1, hp⟩ := hb_ix hp
  obtain ⟨_, hq⟩ := hb_ix hq
  have := h.1 _ _ p q hp hq e
  omega
end HB2
