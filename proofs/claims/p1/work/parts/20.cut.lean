/-! runs that are cut, and put together -/
section ZU
variable {xa : List (Nat × Nat × List zx_V)} {ρ : Nat → Int32} {ex : Nat → Value} {D : va_G}
def zt_T (xa : List (Nat × Nat × List zx_V)) (ρ : Nat → Int32) (ex : Nat → Value) (D : va_G) (fr : zx_Fr) (g : zx_G) (w : zx_Wd) (cs sl : Nat) (lo : zx_L) (st : List zx_V) (pc : Nat) (outs : List zx_O) : Prop := ∀ _ : Unit, zy_T xa ρ ex D fr g w cs sl lo st pc outs
theorem zt_run {n : Nat} {fr : zx_Fr} {g : zx_G} {w : zx_Wd} {cs sl pc : Nat} {lo : zx_L} {st : List zx_V} {outs : List zx_O} (h : zx_run xa n fr g w cs sl lo st pc = some outs) : zt_T xa ρ ex D fr g w cs sl lo st pc outs := by
  intro _ p l e R s m args below meth c A as tys ws H locs ls sv Q C Dy hl hs hret
  exact zs_run zk_tt zk_aa n _ _ _ _ _ _ _ _ _ h C Dy hl hs hret
theorem zt_one {r : zx_Rec} (hr : zy_Snd xa ρ ex D r) {fr : zx_Fr} {g : zx_G} {w : zx_Wd} {cs sl k pc : Nat} {lo : zx_L} {st : List zx_V} {outs : List zx_O} (hk : fr.2.1 = k) (h : zx_ent xa k pc r fr g w cs sl lo st pc = some outs) : zt_T xa ρ ex D fr g w cs sl lo st pc outs := by
  intro _ p l e R s m args below meth c A as tys ws H locs ls sv Q C Dy hl hs hret
  exact zs_ent zk_tt zk_aa r hr fr g w cs sl lo st outs hk h C Dy hl hs hret
theorem zt_go {d k bp mc ms : Nat} {g g2 : zx_G} {w w2 : zx_Wd} {cs sl cs2 sl2 pc : Nat} {lo lo2 : zx_L} {st st2 : List zx_V} {outs : List zx_O} (h1 : zt_T xa ρ ex D (d, k, bp, mc, ms) g w cs sl lo st pc [(g2, w2, .inr (cs2, sl2, lo2, st2))]) (h2 : zt_T xa ρ ex D (d, k, bp, mc, ms) g2 w2 cs2 sl2 lo2 st2 bp outs) : zt_T xa ρ ex D (d, k, bp, mc, ms) g w cs sl lo st pc outs := by
  intro _ p l e R s m args below meth c A as tys ws H locs ls sv Q C Dy hl hs hret
  refine h1 () C Dy hl hs ?_
  intro o ho as' tys' ws' H' locs' hp
  have ho : o = (g2, w2, .inr (cs2, sl2, lo2, st2)) := by
    rcases List.mem_cons.mp ho with z | z
    · exact z
    · cases z
  subst ho
  refine ⟨fun rv hrv => (by cases hrv), fun cs' sl' lo' st' hq ls' sv' Dy hl' hs' => ?_⟩
  cases hq
  exact h2 () C Dy hl' hs' (hret.mono hp (fun _ z => z))
theorem zt_bp {d k bp bp2 mc ms : Nat} {g : zx_G} {w : zx_Wd} {cs sl pc : Nat} {lo : zx_L} {st : List zx_V} {outs : List zx_O} (h : zt_T xa ρ ex D (d, k, bp, mc, ms) g w cs sl lo st pc outs) (ho : ∀ o ∈ outs, ∃ rv, o.2.2 = .inl rv) : zt_T xa ρ ex D (d, k, bp2, mc, ms) g w cs sl lo st pc outs := by
  intro _ p l e R s m args below meth c A as tys ws H locs ls sv Q C Dy hl hs hret
  refine h () C Dy hl hs ?_
  intro o hm as' tys' ws' H' locs' hp
  refine ⟨(hret o hm as' tys' ws' H' locs' hp).1, fun cs' sl' lo' st' hq => ?_⟩
  obtain ⟨rv, z⟩ := ho o hm
  rw [z] at hq
  cases hq
theorem zt_mem {g : zx_G} {w : zx_Wd} {rv : Option zx_V} {o : zx_O} (h : o ∈ [(g, w, (.inl rv : Option zx_V ⊕ (Nat × Nat × zx_L × List zx_V)))]) : o.2.2 = .inl rv := by
  rcases List.mem_cons.mp h with z | z
  · rw [z]
  · cases z
theorem zt_g {fr : zx_Fr} {w w2 : zx_Wd} {cs sl pc : Nat} {lo : zx_L} {st : List zx_V} {rv : Option zx_V} (h : zt_T xa ρ ex D fr [] w cs sl lo st pc [([], w2, .inl rv)]) (g : zx_G) : zt_T xa ρ ex D fr g w cs sl lo st pc [(g, w2, .inl rv)] := by
  intro _ p l e R s m args below meth c A as tys ws H locs ls sv Q C Dy hl hs hret
  have hg := Dy.2.2.2.2.2.1
  refine h () C (Dy.g (fun i q hq => by cases hq)) hl hs ?_
  intro o hm as' tys' ws' H' locs' hp
  have ho : o = ([], w2, .inl rv) := by
    rcases List.mem_cons.mp hm with z | z
    · exact z
    · cases z
  subst ho
  have hh := hret (g, w2, .inl rv) List.mem_cons_self as' tys' ws' H' locs' hp
  refine ⟨fun rv2 hrv cs' sl' pc' ls' st' Dy' hrt => hh.1 rv2 hrv cs' sl' pc' ls' st' (Dy'.g hg) hrt, fun cs' sl' lo' st' hq => ?_⟩
  cases hq
/-- an answer that is known, for just this call -/
noncomputable def zx_orc (fr1 : zx_Fr) (g1 : zx_G) (w1 : zx_Wd) (lo1 : zx_L) (o1 : List zx_O) (r : zx_Rec) : zx_Rec := fun fr g w cs sl lo st pc => cond (Nat.beq fr.2.1 fr1.2.1 && Nat.beq pc 0)
  (cond (decide (fr = fr1 ∧ cs = 0 ∧ sl = 0) && (zx_ls zx_ge g g1 && (zx_ls zx_pe lo lo1 && (zx_ls zx_ve st [] && zx_ls zx_ce w w1)))) (some o1) none) (r fr g w cs sl lo st pc)
theorem zo_snd {fr1 : zx_Fr} {g1 : zx_G} {w1 : zx_Wd} {lo1 : zx_L} {o1 : List zx_O} {r : zx_Rec} (hr : zy_Snd xa ρ ex D r) (hT : zt_T xa ρ ex D fr1 g1 w1 0 0 lo1 [] 0 o1) : zy_Snd xa ρ ex D (zx_orc fr1 g1 w1 lo1 o1 r) := by
  intro fr g w cs sl lo st pc outs h
  have h : cond (Nat.beq fr.2.1 fr1.2.1 && Nat.beq pc 0) (cond (decide (fr = fr1 ∧ cs = 0 ∧ sl = 0) && (zx_ls zx_ge g g1 && (zx_ls zx_pe lo lo1 && (zx_ls zx_ve st [] && zx_ls zx_ce w w1)))) (some o1) none) (r fr g w cs sl lo st pc) = some outs := h
  cases hb : (Nat.beq fr.2.1 fr1.2.1 && Nat.beq pc 0) with
  | false =>
    rw [hb] at h
    intro p l e R s m args below meth c A as tys ws H locs ls sv Q C Dy hl hs hret
    exact hr fr g w cs sl lo st pc outs h C Dy hl hs hret
  | true =>
    rw [hb] at h
    have h0 : pc = 0 := Nat.eq_of_beq_eq_true (Bool.and_eq_true_iff.mp hb).2
    obtain ⟨h1, h2⟩ := zx_cond h
    obtain ⟨a1, h1⟩ := Bool.and_eq_true_iff.mp h1
    obtain ⟨a2, h1⟩ := Bool.and_eq_true_iff.mp h1
    obtain ⟨a3, h1⟩ := Bool.and_eq_true_iff.mp h1
    obtain ⟨a4, a5⟩ := Bool.and_eq_true_iff.mp h1
    obtain ⟨b1, b2, b3⟩ := of_decide_eq_true a1
    have c2 : g = g1 := zx_ls_ok (fun _ _ z => of_decide_eq_true z) a2
    have c3 : lo = lo1 := zx_ls_ok zx_pe_ok a3
    have c4 : st = [] := zx_ls_ok (fun _ _ z => zx_ve_ok z) a4
    have c5 : w = w1 := zx_ls_ok zx_ce_ok a5
    cases h2
    rw [b1, b2, b3, c2, c3, c4, c5, h0]
    intro p l e R s m args below meth c A as tys ws H locs ls sv Q C Dy hl hs hret
    exact hT () C Dy hl hs hret
end ZU
/-- the fresh world with another table of moves -/
noncomputable def zx_wt (t : List Nat) : zx_Wd := zx_w0.set 99 (.inl (0, t.map fun n => .inl n))
/-- it returned, with just this -/
noncomputable def zx_pr (r : zx_R) (w : zx_Wd) (rv : Option zx_V) : Bool := match r with
  | some [(g2, w2, .inl v)] => zx_ls zx_ge g2 [] && ((match v, rv with | none, none => true | some a, some b => zx_ve a b | _, _ => false) && zx_ls zx_ce w2 w)
  | _ => false
theorem zx_pr_ok {r : zx_R} {w : zx_Wd} {rv : Option zx_V} (h : zx_pr r w rv = true) : r = some [([], w, .inl rv)] := by
  match r, h with
  | some [(g2, w2, .inl v)], h =>
    obtain ⟨h1, h⟩ := Bool.and_eq_true_iff.mp h
    obtain ⟨h2, h3⟩ := Bool.and_eq_true_iff.mp h
    have e : v = rv := by
      match v, rv, h2 with
      | none, none, _ => rfl
      | some a, some b, h2 => rw [zx_ve_ok h2]
    rw [zx_ls_ok (fun _ _ z => of_decide_eq_true z) h1, zx_ls_ok zx_ce_ok h3, e]
def zx_t0 : List Nat := [0, 100000, 100000, 100000, 100000, 100000, 100000, 100000, 100000, 100000, 100000, 100000, 100000, 100000, 100000, 100000, 100000, 100000, 100000, 100000, 100000, 100000, 100000, 100000, 100000, 100000, 100000, 100000, 100000, 100000, 100000, 100000, 100000, 100000, 100000, 100000, 100000, 100000, 100000, 100000, 100000, 100000, 100000, 100000, 100000, 100000, 100000, 100000, 100000, 100000, 100000, 100000, 100000, 100000, 100000, 100000, 100000, 100000, 100000, 100000, 100000, 100000, 100000, 100000]
def zx_t1 : List Nat := [0, 100000, 100000, 100000, 100000, 100000, 100000, 1, 100000, 100000, 100000, 100000, 100000, 100000, 100000, 100000, 100000, 100000, 1, 100000, 100000, 100000, 100000, 100000, 100000, 100000, 100000, 100000, 100000, 100000, 100000, 100000, 100000, 100000, 100000, 100000, 100000, 100000, 100000, 100000, 100000, 100000, 100000, 100000, 100000, 100000, 100000, 100000, 100000, 100000, 100000, 100000, 100000, 100000, 100000, 100000, 100000, 100000, 100000, 100000, 1, 100000, 100000, 1]
def zx_t2 : List Nat := [0, 100000, 100000, 100000, 100000, 100000, 100000, 1, 100000, 100000, 2, 100000, 100000, 2, 2, 100000, 100000, 100000, 1, 100000, 100000, 2, 100000, 100000, 100000, 100000, 100000, 100000, 100000, 100000, 100000, 100000, 2, 100000, 100000, 100000, 100000, 100000, 100000, 100000, 2, 100000, 2, 2, 100000, 100000, 100000, 100000, 100000, 100000, 2, 2, 100000, 100000, 100000, 100000, 100000, 100000, 100000, 100000, 1, 100000, 100000, 1]
def zx_t3 : List Nat := [0, 3, 100000, 100000, 100000, 100000, 100000, 1, 100000, 100000, 2, 100000, 100000, 2, 2, 100000, 100000, 100000, 1, 100000, 3, 2, 3, 3, 3, 100000, 100000, 100000, 3, 100000, 100000, 3, 2, 100000, 100000, 100000, 100000, 100000, 100000, 3, 2, 100000, 2, 2, 100000, 3, 3, 3, 100000, 100000, 2, 2, 100000, 3, 3, 100000, 3, 3, 3, 100000, 1, 100000, 100000, 1]
def zx_t4 : List Nat := [0, 3, 4, 4, 4, 100000, 100000, 1, 4, 100000, 2, 4, 100000, 2, 2, 100000, 100000, 100000, 1, 4, 3, 2, 3, 3, 3, 4, 4, 4, 3, 100000, 100000, 3, 2, 4, 4, 100000, 4, 4, 4, 3, 2, 100000, 2, 2, 100000, 3, 3, 3, 100000, 100000, 2, 2, 100000, 3, 3, 100000, 3, 3, 3, 100000, 1, 4, 100000, 1]
def zx_t5 : List Nat := [0, 3, 4, 4, 4, 5, 5, 1, 4, 100000, 2, 4, 100000, 2, 2, 5, 5, 5, 1, 4, 3, 2, 3, 3, 3, 4, 4, 4, 3, 5, 5, 3, 2, 4, 4, 100000, 4, 4, 4, 3, 2, 5, 2, 2, 100000, 3, 3, 3, 5, 100000, 2, 2, 5, 3, 3, 5, 3, 3, 3, 100000, 1, 4, 5, 1]
def zx_t6 : List Nat := [0, 3, 4, 4, 4, 5, 5, 1, 4, 6, 2, 4, 6, 2, 2, 5, 5, 5, 1, 4, 3, 2, 3, 3, 3, 4, 4, 4, 3, 5, 5, 3, 2, 4, 4, 6, 4, 4, 4, 3, 2, 5, 2, 2, 6, 3, 3, 3, 5, 6, 2, 2, 5, 3, 3, 5, 3, 3, 3, 6, 1, 4, 5, 1]
set_option maxRecDepth 100000 in
theorem zl_s : zx_pz (zx_run zx_xa 100000 (28, 150, 33, 0, 0) [] zx_w0 0 0 [(0, .inr (.inl (some 73)))] [] 0) [] (zx_wt zx_t0) 0 0 [(1, .inl 0), (0, .inr (.inl (some 73)))] [] = true := by decide +kernel
