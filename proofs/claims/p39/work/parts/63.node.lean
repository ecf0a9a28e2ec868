/-! a checked table gives the contract -/
section QCL
variable {ex : Nat → Value} {fc : Nat → Nat → Int32} {Γ : qΓ} {D : va_G} {as : List Nat} {tys : List (ClassId × FieldType)}
theorem q_take {ρ0 ρ : List Int} (h : qe ρ0 ρ) : ρ.take ρ0.length = ρ0 ∧ ρ0.length ≤ ρ.length := by
  obtain ⟨r, rfl⟩ := h
  exact ⟨by rw [List.take_left], by rw [List.length_append]; omega⟩
theorem qs_chk {ct : List qC} (hV : ∀ c ∈ ct, qy_V ex Γ D as tys c) (hT : zk_t) (hA : zk_a) {fuel : Nat} {c : qC} {cuts : List Nat} {nodes : List qN} (h : q_chk ct zx_xa0 fuel c cuts nodes = true) : qy_V ex Γ D as tys c := by
  intro _ fc ρ0 p l e R s m args below meth cd A ws H locs cs sl ls sv Q Cx Dy hl hs hret
  have hex := Cx.2.2.2.2.2.2.1.1
  have hg0 := Dy.2.2.2.2.2
  have hlen : zx_len c.2.2.1.1 = ρ0.length := by rw [zx_len_eq]; exact hg0.1
  have Cc : qy_C ex p R s m args meth cd A (c.2.1, c.1, cuts) cs sl := Cx.le (Nat.le_refl _)
  unfold q_chk at h
  rw [hlen] at h
  cases hE : q_okR (q_land ρ0.length c.2.2.2.2.2 nodes none) (q_run ct zx_xa0 fuel (c.2.1, c.1, cuts) c.2.2.1 c.2.2.2.1 c.2.2.2.2.1 [] 0) with
  | false => rw [hE] at h; cases h
  | true =>
    rw [hE, cond_true] at h
    have hN := q_chn_ok h
    -- an end of the method
    have ends : ∀ {z : qO} {rv : Option qV} {x : List qO} {ρ' : List Int} {ws' : va_W} {H' : Heap} {locs' : List Loc} {pc' : Nat} {ls' : Array Slot} {st' : List Value} {fc1 : Nat → Nat → Int32}, qγ Γ fc fc1 → qe ρ0 ρ' → qy_D ρ' ex fc1 D s A z.1 z.2.1 as tys ws' H' locs' → q_lp ρ0.length z rv c.2.2.2.2.2 = some x → qy_rt ρ' ex as c.1 pc' rv st' → W p l e R s m args below meth cd H' locs' cs sl Q (F0 m pc' ls' st') := by
      intro z rv x ρ' ws' H' locs' pc' ls' st' fc1 hγ hq Dz hx hrt
      obtain ⟨t1, t2⟩ := q_take hq
      obtain ⟨t, tm, sg, vals, r1, r2, r3, r4, r5, r6⟩ := q_lp_ok (fc := fc1) (tys := tys) (as := as) hex t2 Dz.2.2.2.2.2 hx
      rw [t1] at r2 r3 r4 r5 r6
      refine (hret.2 (t.1, t.2.1, .inl t.2.2) fc1 (ρ0 ++ vals) ws' H' locs' ⟨List.mem_map.mpr ⟨t, tm, rfl⟩, ⟨vals, rfl⟩, hγ⟩ ⟨Dz.1, Dz.2.1, Dz.2.2.1, Dz.2.2.2.1, r3 _ Dz.2.2.2.2.1, r2⟩).1 t.2.2 rfl pc' ls' st' ?_
      rcases r6 with ⟨q1, q2⟩ | ⟨a, b, q1, q2, q3⟩
      · rw [q1]
        rw [q2] at hrt
        exact hrt
      · rw [q1]
        rw [q2] at hrt
        obtain ⟨v, v1, v2, v3⟩ := hrt
        exact ⟨v, v1, q3 v v2, v3⟩
    -- from every node
    have node : ∀ (N : Nat) (nd : qN), nd ∈ nodes → ∀ {ρ : List Int} {ws' : va_W} {H' : Heap} {locs' : List Loc} {ls' : Array Slot} {sv' : List Value} {fc1 : Nat → Nat → Int32}, qγ Γ fc fc1 → qe ρ0 ρ → (nd.2.2.2.2.2.1 + q_S ρ nd.2.2.2.2.2.2).toNat < N → qy_D ρ ex fc1 D s A nd.2.1 nd.2.2.1 as tys ws' H' locs' → qy_l ρ ex as ls' (zx_info c.1).1 nd.2.2.2.1 → qy_s ρ ex as nd.2.2.2.2.1 sv' → W p l e R s m args below meth cd H' locs' cs sl Q (F0 m nd.1 ls' sv') := by
      intro N
      induction N with
      | zero => intro nd _ ρ ws' H' locs' ls' sv' fc1 _ _ hz; omega
      | succ N ih =>
        intro nd hnd ρ ws' H' locs' ls' sv' fc1 hγ hq hm Dn hln hsn
        have hn := hN nd hnd
        cases hms : q_ms (zx_len nd.2.1.1) nd.2.2.2.2.2.2 with
        | false => rw [hms] at hn; cases hn
        | true =>
          rw [hms, cond_true] at hn
          rw [zx_len_eq, Dn.2.2.2.2.2.1] at hms
          obtain ⟨outs, o1, o2⟩ := q_okR_ok hn
          refine qs_go hV hT hA fuel _ _ _ _ _ _ _ o1 () (ρ := ρ) Cc Dn hln hsn ?_
          refine ⟨hγ.1, ?_⟩
          intro z fc2 ρ' ws2 H2 locs2 ⟨hz, hq2, hγ2⟩ Dz
          obtain ⟨x, hx⟩ := o2 z hz
          refine ⟨fun rv hrv pc' ls2 st2 hrt => ?_, fun pc' lo' st2 hrv ls2 sv2 hl2 hs2 => ?_⟩
          · unfold q_land at hx
            rw [hrv] at hx
            exact ends (hγ.tr hγ2) (hq.tr hq2) Dz hx hrt
          · unfold q_land at hx
            rw [hrv] at hx
            obtain ⟨t1, t2⟩ := q_take (hq.tr hq2)
            obtain ⟨n2, n3, n4, sg, vals, ⟨r1, r2, r3, r4, r5, r6⟩, r7⟩ := q_ln2_ok (fc := fc2) (tys := tys) (as := as) hex t2 Dz.2.2.2.2.2 hx
            obtain ⟨f1, f2⟩ := r7 _ rfl
            rw [q_S_ext hq2 hms] at f1 f2
            rw [t1] at r2 r3 r4 r5 f2
            rw [← n4]
            exact ih n2 n3 (ρ := ρ0 ++ vals) (hγ.tr hγ2) ⟨vals, rfl⟩ (by omega) ⟨Dz.1, Dz.2.1, Dz.2.2.1, Dz.2.2.2.1, r3 _ Dz.2.2.2.2.1, r2⟩ (r4 _ _ hl2) (r5 _ hs2)
    -- from the entry
    obtain ⟨outs, o1, o2⟩ := q_okR_ok hE
    refine qs_run hV hT hA fuel _ _ _ _ _ _ _ o1 () (ρ := ρ0) Cc Dy hl hs ?_
    refine ⟨hret.1, ?_⟩
    intro z fc2 ρ' ws2 H2 locs2 ⟨hz, hq2, hγ2⟩ Dz
    obtain ⟨x, hx⟩ := o2 z hz
    refine ⟨fun rv hrv pc' ls2 st2 hrt => ?_, fun pc' lo' st2 hrv ls2 sv2 hl2 hs2 => ?_⟩
    · unfold q_land at hx
      rw [hrv] at hx
      exact ends hγ2 hq2 Dz hx hrt
    · unfold q_land at hx
      rw [hrv] at hx
      obtain ⟨t1, t2⟩ := q_take hq2
      obtain ⟨n2, n3, n4, sg, vals, ⟨r1, r2, r3, r4, r5, r6⟩, r7⟩ := q_ln2_ok (fc := fc2) (tys := tys) (as := as) hex t2 Dz.2.2.2.2.2 hx
      rw [t1] at r2 r3 r4 r5
      rw [← n4]
      exact node _ n2 n3 (ρ := ρ0 ++ vals) hγ2 ⟨vals, rfl⟩ (Nat.lt_succ_self _) ⟨Dz.1, Dz.2.1, Dz.2.2.1, Dz.2.2.2.1, r3 _ Dz.2.2.2.2.1, r2⟩ (r4 _ _ hl2) (r5 _ hs2)
end QCL
