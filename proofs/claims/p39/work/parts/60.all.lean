/-! every row that is checked is right for the second executor, too -/
section QR1
variable {ex : Nat → Value} {fc : Nat → Nat → Int32} {Γ : qΓ} {D : va_G} {as : List Nat} {tys : List (ClassId × FieldType)} {k pc : Nat}
theorem q_psh_eq (n nx : Nat) : q_psh n nx = q_push (.inl (zx_s n)) nx := by
  funext rec fr g w lo st pc
  show zx_i (zx_s n) _ = _
  rw [zx_i_eq]
  rfl
theorem q_pshl_eq (n nx : Nat) : q_pshl n nx = q_push (.inr (.inr (.inr (.inr (.inl (q_s64 n)))))) nx := by
  funext rec fr g w lo st pc
  show zx_i (q_s64 n) _ = _
  rw [zx_i_eq]
  rfl
theorem q_incN_eq (i c nx : Nat) : q_incN i c nx = q_inc i (zx_s c) nx := by
  funext rec fr g w lo st pc
  show zx_i (zx_s c) _ = _
  rw [zx_i_eq]
theorem q_64 (n : Nat) : (Int64.ofNat n).toInt = q_s64 n := by
  rw [Int64.toInt_ofNat']
  unfold q_s64
  show Int.bmod (n : Int) 18446744073709551616 = (((n + 9223372036854775808) % 18446744073709551616 : Nat) : Int) - 9223372036854775808
  rw [Int.bmod_def]
  split <;> omega
theorem qs_psh {n nx : Nat} (row : ∀ {p : Program} {l : Launch} {e : Env} {R : Room} {s : State} {m : MethodId} {args : Array Value} {below : List Frame} {meth : Method} {c : Code} {A : Nat → Prop} {H : Heap} {locs : List Loc} {cells slots : Nat} {Q : State → Prop} {ls : Array Slot} {rest : List Value} {fr : qFr}, fr.2.1 = k → qy_C ex p R s m args meth c A fr cells slots → va_S A s.heap H locs →
      W p l e R s m args below meth c H locs cells slots Q (F0 m nx ls (.int (Int32.ofNat n) :: rest)) → W p l e R s m args below meth c H locs cells slots Q (F0 m pc ls rest)) : qy_Hok ex Γ D as tys k pc (q_psh n nx) := by
  rw [q_psh_eq]
  exact qh_push (v := .int (Int32.ofNat n)) (fun ρ => qy_lit (zy_toInt n)) row
theorem qs_pshl {n nx : Nat} (row : ∀ {p : Program} {l : Launch} {e : Env} {R : Room} {s : State} {m : MethodId} {args : Array Value} {below : List Frame} {meth : Method} {c : Code} {A : Nat → Prop} {H : Heap} {locs : List Loc} {cells slots : Nat} {Q : State → Prop} {ls : Array Slot} {rest : List Value} {fr : qFr}, fr.2.1 = k → qy_C ex p R s m args meth c A fr cells slots → va_S A s.heap H locs →
      W p l e R s m args below meth c H locs cells slots Q (F0 m nx ls (.long (Int64.ofNat n) :: rest)) → W p l e R s m args below meth c H locs cells slots Q (F0 m pc ls rest)) : qy_Hok ex Γ D as tys k pc (q_pshl n nx) := by
  rw [q_pshl_eq]
  exact qh_push (v := .long (Int64.ofNat n)) (fun ρ => ⟨Int64.ofNat n, rfl, q_64 n⟩) row
theorem qs_loadI {i nx : Nat} (row : ∀ {x : Int32} {p : Program} {l : Launch} {e : Env} {R : Room} {s : State} {m : MethodId} {args : Array Value} {below : List Frame} {meth : Method} {c : Code} {H : Heap} {locs : List Loc} {cells slots : Nat} {Q : State → Prop} {ls : Array Slot} {rest : List Value}, p.tables.exec = Jvm.exec → c.code = zx_bys k → ls[i]? = some (.val (.int x)) →
      W p l e R s m args below meth c H locs cells slots Q (F0 m nx ls (.int x :: rest)) → W p l e R s m args below meth c H locs cells slots Q (F0 m pc ls rest)) : qy_Hok ex Γ D as tys k pc (q_load q_isI i nx) :=
  qh_load fun {ρ a v} _ ho hv {p l e R s m args below meth c H locs cells slots Q ls rest} hx hb hl kk => by
    obtain ⟨x, rfl⟩ := qy_isI ho hv
    exact row hx hb hl kk
theorem qs_loadL {i nx : Nat} (row : ∀ {x : Int64} {p : Program} {l : Launch} {e : Env} {R : Room} {s : State} {m : MethodId} {args : Array Value} {below : List Frame} {meth : Method} {c : Code} {H : Heap} {locs : List Loc} {cells slots : Nat} {Q : State → Prop} {ls : Array Slot} {rest : List Value}, p.tables.exec = Jvm.exec → c.code = zx_bys k → ls[i]? = some (.val (.long x)) →
      W p l e R s m args below meth c H locs cells slots Q (F0 m nx ls (.long x :: rest)) → W p l e R s m args below meth c H locs cells slots Q (F0 m pc ls rest)) : qy_Hok ex Γ D as tys k pc (q_load q_isL i nx) :=
  qh_load fun {ρ a v} _ ho hv {p l e R s m args below meth c H locs cells slots Q ls rest} hx hb hl kk => by
    obtain ⟨x, rfl⟩ := qy_isL ho hv
    exact row hx hb hl kk
theorem qs_loadA {i nx : Nat} (row : ∀ {x : Nat} {p : Program} {l : Launch} {e : Env} {R : Room} {s : State} {m : MethodId} {args : Array Value} {below : List Frame} {meth : Method} {c : Code} {H : Heap} {locs : List Loc} {cells slots : Nat} {Q : State → Prop} {ls : Array Slot} {rest : List Value}, p.tables.exec = Jvm.exec → c.code = zx_bys k → ls[i]? = some (.val (.ref x)) →
      W p l e R s m args below meth c H locs cells slots Q (F0 m nx ls (.ref x :: rest)) → W p l e R s m args below meth c H locs cells slots Q (F0 m pc ls rest))
    (rowN : ∀ {p : Program} {l : Launch} {e : Env} {R : Room} {s : State} {m : MethodId} {args : Array Value} {below : List Frame} {meth : Method} {c : Code} {H : Heap} {locs : List Loc} {cells slots : Nat} {Q : State → Prop} {ls : Array Slot} {rest : List Value}, p.tables.exec = Jvm.exec → c.code = zx_bys k → ls[i]? = some (.val .null) →
      W p l e R s m args below meth c H locs cells slots Q (F0 m nx ls (.null :: rest)) → W p l e R s m args below meth c H locs cells slots Q (F0 m pc ls rest)) : qy_Hok ex Γ D as tys k pc (q_load q_isA i nx) :=
  qh_load fun {ρ a v} hex ho hv {p l e R s m args below meth c H locs cells slots Q ls rest} hx hb hl kk => by
    rcases qy_isA hex ho hv with rfl | ⟨q, rfl⟩
    · exact rowN hx hb hl kk
    · exact row hx hb hl kk
theorem qs_if2 {c : ClassFile.Cond} {off : Int} {tgt : Nat} (hd : decode (zx_bys k) pc = .ok (.if_icmp c off, 3)) (ht : (pc : Int) + off = (tgt : Int)) : qy_Hok ex Γ D as tys k pc (q_if2 c tgt (pc + 3)) := by
  cases c
  · exact qh_if2 fun hx hb kt kf => lv_icmp_eq hx hb hd ht kt kf
  · exact qh_if2 fun hx hb kt kf => lv_icmp_ne hx hb hd ht kt (fun h => kf (fun n => n h))
  · exact qh_if2 fun hx hb kt kf => lv_icmp_lt hx hb hd ht kt kf
  · exact qh_if2 fun hx hb kt kf => lv_icmp_ge hx hb hd ht kt kf
  · exact qh_if2 fun hx hb kt kf => lv_icmp_gt hx hb hd ht kt kf
  · exact qh_if2 fun hx hb kt kf => lv_icmp_le hx hb hd ht kt kf
theorem qs_if1 {c : ClassFile.Cond} {off : Int} {tgt : Nat} (hd : decode (zx_bys k) pc = .ok (.ifCond c off, 3)) (ht : (pc : Int) + off = (tgt : Int)) : qy_Hok ex Γ D as tys k pc (q_if1 c tgt (pc + 3)) := by
  cases c
  · exact qh_if1 fun hx hb kt kf => lv_if_eq hx hb hd ht kt kf
  · exact qh_if1 fun hx hb kt kf => lv_if_ne hx hb hd ht kt (fun h => kf (fun n => n h))
  · exact qh_if1 fun hx hb kt kf => lv_if_lt hx hb hd ht kt kf
  · exact qh_if1 fun hx hb kt kf => lv_if_ge hx hb hd ht kt kf
  · exact qh_if1 fun hx hb kt kf => lv_if_gt hx hb hd ht kt kf
  · exact qh_if1 fun hx hb kt kf => lv_if_le hx hb hd ht kt kf
theorem q_zip_ok : ∀ {ps : List (Int × Int)} {ts : List Nat} {kk : List (Int × Nat) → qR} {o : List qO}, q_zip ps ts kk = some o → ∃ ks, kk ks = some o ∧ (∀ (j : Nat) (q : Int × Int) (t : Nat), ps[j]? = some q → ts[j]? = some t → (q.1, t) ∈ ks) ∧ (∀ q ∈ ks, ∃ u ∈ ps, q.1 = u.1) ∧ ps.length ≤ ts.length
  | [], ts, kk, o, h => ⟨[], h, (fun j q t hq => by simp at hq), (fun q hq => by cases hq), Nat.zero_le _⟩
  | p :: ps, [], kk, o, h => by cases h
  | p :: ps, t :: ts, kk, o, h => by
    obtain ⟨ks, k1, k2, k3, k4⟩ := q_zip_ok (ps := ps) (ts := ts) (kk := fun l => kk ((p.1, t) :: l)) h
    refine ⟨(p.1, t) :: ks, k1, fun j q u hq hu => ?_, fun q hq => ?_, Nat.succ_le_succ k4⟩
    · cases j with
      | zero => cases hq; cases hu; exact List.mem_cons_self
      | succ j => exact List.mem_cons_of_mem _ (k2 j q u hq hu)
    · rcases List.mem_cons.mp hq with rfl | hq
      · exact ⟨p, List.mem_cons_self, rfl⟩
      · obtain ⟨u, u1, u2⟩ := k3 q hq
        exact ⟨u, List.mem_cons_of_mem _ u1, u2⟩
theorem q_off {d x : Int} : ∀ {ps : List (Int × Int)}, Op.lookupswitch.offset ps d x = d ∨ ∃ (j : Nat) (q : Int × Int), ps[j]? = some q ∧ q.1 = x ∧ Op.lookupswitch.offset ps d x = q.2
  | [] => Or.inl rfl
  | (a, o) :: r => by
    rw [Op.lookupswitch.offset_cons]
    split
    · rename_i e
      exact Or.inr ⟨0, (a, o), rfl, e, rfl⟩
    · rcases q_off (d := d) (x := x) (ps := r) with h | ⟨j, q, h1, h2, h3⟩
      · exact Or.inl h
      · exact Or.inr ⟨j + 1, q, h1, h2, h3⟩
theorem qh_lsw {dflt : Int} {ps : Array (Int × Int)} {len d : Nat} {ts : List Nat} (hd : decode (zx_bys k) pc = .ok (.lookupswitch dflt ps, len)) (h1 : (pc : Int) + dflt = (d : Int)) (h2 : ps.toList.map (fun o => (pc : Int) + o.2) = ts.map (fun t : Nat => (t : Int))) (h3 : (ps.toList.zip (ps.toList.drop 1)).all (fun (a, next) => a.1 < next.1) = true) : qy_Hok ex Γ D as tys k pc (q_lsw ps.toList (d :: ts)) := by
  intro rec hr fr g w lo2 st outs hk h _ fc ρ p l e R s m args below meth cd A ws H locs cs sl ls sv Q Cx Dy hl hs hret
  subst hk
  have hg := Dy.2.2.2.2.2
  match st, sv, hs, h with
  | a :: r, v :: t, ⟨e1, e2⟩, h =>
    have h : q_nm g a (fun v => q_zip ps.toList ts fun ks => cond (q_isI v) (q_app (q_cs g v (fun g t => rec fr g w lo2 r t) ks) (rec fr g w lo2 r d)) none) = some outs := h
    obtain ⟨a', e1, h⟩ := q_nm_ok hg e1 h
    obtain ⟨ks, h, k2, k3, k4⟩ := q_zip_ok h
    obtain ⟨hi, h⟩ := q_cond h
    obtain ⟨x, rfl⟩ := qy_isI hi e1
    obtain ⟨l1, m1, p1, p2, p3, p4⟩ := q_app_ok h
    rcases q_off (d := dflt) (x := x.toInt) (ps := ps.toList) with ho | ⟨j, q, j1, j2, ho⟩
    · exact lv_lookup Cx.1 Cx.2.1 hd h3 ho h1 (hr _ _ _ _ _ _ _ p2 () Cx Dy hl e2 (hret.mono qe.rf p4))
    · have hjl : j < ts.length := by
        have := (List.getElem?_eq_some_iff.mp j1).1
        omega
      have htj : ts[j]? = some ts[j] := List.getElem?_eq_getElem hjl
      have e3 : (ps.toList.map (fun o => (pc : Int) + o.2))[j]? = some ((pc : Int) + q.2) := by rw [List.getElem?_map, j1]; rfl
      rw [h2, List.getElem?_map, htj] at e3
      have e4 : ((ts[j] : Nat) : Int) = (pc : Int) + q.2 := Option.some.inj e3
      have hm := k2 j q _ j1 htj
      have lits : ∀ u ∈ ks, ∃ y : Int32, x.toInt = u.1 → y.toInt = u.1 := fun u hu => ⟨x, fun z => z⟩
      -- only the key that it is matters
      have go : ∀ {ks : List (Int × Nat)} {o : List qO}, q_cs g a' (fun g t => rec fr g w lo2 r t) ks = some o → (q.1, ts[j]) ∈ ks → qy_go ρ (fun g => rec fr g w lo2 r ts[j]) o := by
        intro ks
        induction ks with
        | nil => intro o _ hz; cases hz
        | cons b ks ih =>
          intro o hc hz
          obtain ⟨l2, m2, u1, u2, u3, u4⟩ := q_app_ok (show q_app (q_as .eq g a' (.inl b.1) fun g => rec fr g w lo2 r b.2) (q_cs g a' (fun g t => rec fr g w lo2 r t) ks) = some o from hc)
          rcases List.mem_cons.mp hz with rfl | hz
          · exact (q_as_ok (c := .eq) hg e1 (qy_lit (ρ := ρ) (ex := ex) (as := as) (x := x) j2.symm) (show x = x from rfl) u1).sub u3
          · exact (ih u2 hz).sub u4
      obtain ⟨g', o', f1, f2, f3⟩ := go p1 hm
      exact lv_lookup Cx.1 Cx.2.1 hd h3 ho e4.symm (hr _ _ _ _ _ _ _ f2 () Cx (Dy.g qe.rf f1) hl e2 (hret.mono qe.rf (fun o ho => p3 o (f3 o ho))))
end QR1
