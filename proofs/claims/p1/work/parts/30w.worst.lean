/-! case 37: worst -/
set_option maxRecDepth 100000 in
theorem zl_64 : zx_pr (zx_ent zx_xa 150 33 (zx_run zx_xa 100000) (28, 150, 33, 0, 0) [] (zx_wt zx_t6) 0 0 [(1, .inl 64), (2, .inl 64), (3, .inl 4), (0, .inr (.inl (some 73)))] [] 33) (zx_wt zx_t6) none = true := by decide +kernel
section ZW
variable {ρ : Nat → Int32} {ex : Nat → Value} {D : va_G}
theorem zl_all : zt_T zx_xa ρ ex D (28, 150, 1000000, 0, 0) [] zx_w0 0 0 [(0, .inr (.inl (some 73)))] [] 0 [([], zx_wt zx_t6, .inl none)] := by
  have hS : zy_Snd zx_xa ρ ex D (zx_run zx_xa 100000) := zs_run zk_tt zk_aa 100000
  refine zt_bp (bp := 33) ?_ (fun o ho => ⟨none, zt_mem ho⟩)
  refine zt_go (zt_run (zx_pz_ok zl_s)) ?_
  refine zt_go (zt_one hS rfl (zx_pz_ok zl_0)) ?_
  refine zt_go (zt_one hS rfl (zx_pz_ok zl_1)) ?_
  refine zt_go (zt_one hS rfl (zx_pz_ok zl_2)) ?_
  refine zt_go (zt_one hS rfl (zx_pz_ok zl_3)) ?_
  refine zt_go (zt_one hS rfl (zx_pz_ok zl_4)) ?_
  refine zt_go (zt_one hS rfl (zx_pz_ok zl_5)) ?_
  refine zt_go (zt_one hS rfl (zx_pz_ok zl_6)) ?_
  refine zt_go (zt_one hS rfl (zx_pz_ok zl_7)) ?_
  refine zt_go (zt_one hS rfl (zx_pz_ok zl_8)) ?_
  refine zt_go (zt_one hS rfl (zx_pz_ok zl_9)) ?_
  refine zt_go (zt_one hS rfl (zx_pz_ok zl_10)) ?_
  refine zt_go (zt_one hS rfl (zx_pz_ok zl_11)) ?_
  refine zt_go (zt_one hS rfl (zx_pz_ok zl_12)) ?_
  refine zt_go (zt_one hS rfl (zx_pz_ok zl_13)) ?_
  refine zt_go (zt_one hS rfl (zx_pz_ok zl_14)) ?_
  refine zt_go (zt_one hS rfl (zx_pz_ok zl_15)) ?_
  refine zt_go (zt_one hS rfl (zx_pz_ok zl_16)) ?_
  refine zt_go (zt_one hS rfl (zx_pz_ok zl_17)) ?_
  refine zt_go (zt_one hS rfl (zx_pz_ok zl_18)) ?_
  refine zt_go (zt_one hS rfl (zx_pz_ok zl_19)) ?_
  refine zt_go (zt_one hS rfl (zx_pz_ok zl_20)) ?_
  refine zt_go (zt_one hS rfl (zx_pz_ok zl_21)) ?_
  refine zt_go (zt_one hS rfl (zx_pz_ok zl_22)) ?_
  refine zt_go (zt_one hS rfl (zx_pz_ok zl_23)) ?_
  refine zt_go (zt_one hS rfl (zx_pz_ok zl_24)) ?_
  refine zt_go (zt_one hS rfl (zx_pz_ok zl_25)) ?_
  refine zt_go (zt_one hS rfl (zx_pz_ok zl_26)) ?_
  refine zt_go (zt_one hS rfl (zx_pz_ok zl_27)) ?_
  refine zt_go (zt_one hS rfl (zx_pz_ok zl_28)) ?_
  refine zt_go (zt_one hS rfl (zx_pz_ok zl_29)) ?_
  refine zt_go (zt_one hS rfl (zx_pz_ok zl_30)) ?_
  refine zt_go (zt_one hS rfl (zx_pz_ok zl_31)) ?_
  refine zt_go (zt_one hS rfl (zx_pz_ok zl_32)) ?_
  refine zt_go (zt_one hS rfl (zx_pz_ok zl_33)) ?_
  refine zt_go (zt_one hS rfl (zx_pz_ok zl_34)) ?_
  refine zt_go (zt_one hS rfl (zx_pz_ok zl_35)) ?_
  refine zt_go (zt_one hS rfl (zx_pz_ok zl_36)) ?_
  refine zt_go (zt_one hS rfl (zx_pz_ok zl_37)) ?_
  refine zt_go (zt_one hS rfl (zx_pz_ok zl_38)) ?_
  refine zt_go (zt_one hS rfl (zx_pz_ok zl_39)) ?_
  refine zt_go (zt_one hS rfl (zx_pz_ok zl_40)) ?_
  refine zt_go (zt_one hS rfl (zx_pz_ok zl_41)) ?_
  refine zt_go (zt_one hS rfl (zx_pz_ok zl_42)) ?_
  refine zt_go (zt_one hS rfl (zx_pz_ok zl_43)) ?_
  refine zt_go (zt_one hS rfl (zx_pz_ok zl_44)) ?_
  refine zt_go (zt_one hS rfl (zx_pz_ok zl_45)) ?_
  refine zt_go (zt_one hS rfl (zx_pz_ok zl_46)) ?_
  refine zt_go (zt_one hS rfl (zx_pz_ok zl_47)) ?_
  refine zt_go (zt_one hS rfl (zx_pz_ok zl_48)) ?_
  refine zt_go (zt_one hS rfl (zx_pz_ok zl_49)) ?_
  refine zt_go (zt_one hS rfl (zx_pz_ok zl_50)) ?_
  refine zt_go (zt_one hS rfl (zx_pz_ok zl_51)) ?_
  refine zt_go (zt_one hS rfl (zx_pz_ok zl_52)) ?_
  refine zt_go (zt_one hS rfl (zx_pz_ok zl_53)) ?_
  refine zt_go (zt_one hS rfl (zx_pz_ok zl_54)) ?_
  refine zt_go (zt_one hS rfl (zx_pz_ok zl_55)) ?_
  refine zt_go (zt_one hS rfl (zx_pz_ok zl_56)) ?_
  refine zt_go (zt_one hS rfl (zx_pz_ok zl_57)) ?_
  refine zt_go (zt_one hS rfl (zx_pz_ok zl_58)) ?_
  refine zt_go (zt_one hS rfl (zx_pz_ok zl_59)) ?_
  refine zt_go (zt_one hS rfl (zx_pz_ok zl_60)) ?_
  refine zt_go (zt_one hS rfl (zx_pz_ok zl_61)) ?_
  refine zt_go (zt_one hS rfl (zx_pz_ok zl_62)) ?_
  refine zt_go (zt_one hS rfl (zx_pz_ok zl_63)) ?_
  exact zt_one hS rfl (zx_pr_ok zl_64)
end ZW
set_option maxRecDepth 100000 in
theorem zw_0a : zx_pz (zx_run zx_xa 100000 (29, 188, 12, 0, 0) [] zx_w0 0 0 [(0, .inr (.inl (some 73))), (1, .inl 0)] [] 0) [] zx_w0 0 0 [(0, .inr (.inl (some 73))), (1, .inl 0)] [.inr (.inl (some 73))] = true := by decide +kernel
set_option maxRecDepth 100000 in
theorem zw_0b : zx_pr (zx_ent zx_xa 188 12 (zx_orc (28, 150, 1000000, 0, 0) [] zx_w0 [(0, .inr (.inl (some 73)))] [([], zx_wt zx_t6, .inl none)] (zx_run zx_xa 100000)) (29, 188, 12, 0, 0) [] zx_w0 0 0 [(0, .inr (.inl (some 73))), (1, .inl 0)] [.inr (.inl (some 73))] 12) (zx_wt zx_t6) (some (.inl 9)) = true := by decide +kernel
theorem zw_0 {ρ : Nat → Int32} {ex : Nat → Value} {D : va_G} (g : zx_G) : zt_T zx_xa ρ ex D (29, 188, 1000000, 0, 0) g zx_w0 0 0 [(0, .inr (.inl (some 73))), (1, .inl 0)] [] 0 [(g, zx_wt zx_t6, .inl (some (.inl 9)))] := by
  refine zt_g ?_ g
  refine zt_bp (bp := 12) ?_ (fun o ho => ⟨some (.inl 9), zt_mem ho⟩)
  refine zt_go (zt_run (zx_pz_ok zw_0a)) ?_
  exact zt_one (zo_snd (zs_run zk_tt zk_aa 100000) zl_all) rfl (zx_pr_ok zw_0b)

set_option maxRecDepth 100000 in
theorem zw_1a : zx_pz (zx_run zx_xa 100000 (29, 188, 12, 0, 0) [] zx_w0 0 0 [(0, .inr (.inl (some 73))), (1, .inl 1)] [] 0) [] zx_w0 0 0 [(0, .inr (.inl (some 73))), (1, .inl 1)] [.inr (.inl (some 73))] = true := by decide +kernel
set_option maxRecDepth 100000 in
theorem zw_1b : zx_pr (zx_ent zx_xa 188 12 (zx_orc (28, 150, 1000000, 0, 0) [] zx_w0 [(0, .inr (.inl (some 73)))] [([], zx_wt zx_t6, .inl none)] (zx_run zx_xa 100000)) (29, 188, 12, 0, 0) [] zx_w0 0 0 [(0, .inr (.inl (some 73))), (1, .inl 1)] [.inr (.inl (some 73))] 12) (zx_wt zx_t6) (some (.inl 6)) = true := by decide +kernel
theorem zw_1 {ρ : Nat → Int32} {ex : Nat → Value} {D : va_G} (g : zx_G) : zt_T zx_xa ρ ex D (29, 188, 1000000, 0, 0) g zx_w0 0 0 [(0, .inr (.inl (some 73))), (1, .inl 1)] [] 0 [(g, zx_wt zx_t6, .inl (some (.inl 6)))] := by
  refine zt_g ?_ g
  refine zt_bp (bp := 12) ?_ (fun o ho => ⟨some (.inl 6), zt_mem ho⟩)
  refine zt_go (zt_run (zx_pz_ok zw_1a)) ?_
  exact zt_one (zo_snd (zs_run zk_tt zk_aa 100000) zl_all) rfl (zx_pr_ok zw_1b)
set_option maxRecDepth 100000 in
theorem zy_0a : zx_pz (zx_run zx_xa 100000 (30, 0, 1130, 200, 20000) (zx_gr 0 0) zx_w0 109 19183 zx_l0 [] 1115) (zx_gr 0 0) zx_w0 109 19183 zx_l0 [.inl 0, .inr (.inl (some 73)), .inl 9] = true := by decide +kernel
set_option maxRecDepth 100000 in
theorem zy_0b : zx_fin (zx_ent zx_xa 0 1130 (zx_orc (29, 188, 1000000, 0, 0) (zx_gr 0 0) zx_w0 [(0, .inr (.inl (some 73))), (1, .inl 0)] [(zx_gr 0 0, zx_wt zx_t6, .inl (some (.inl 9)))] (zx_run zx_xa 100000)) (30, 0, 1130, 200, 20000) (zx_gr 0 0) zx_w0 109 19183 zx_l0 [.inl 0, .inr (.inl (some 73)), .inl 9] 1130) = true := by decide +kernel
set_option maxRecDepth 100000 in
theorem zy_1a : zx_pz (zx_run zx_xa 100000 (30, 0, 1130, 200, 20000) (zx_gr 1 1) zx_w0 109 19183 zx_l0 [] 1115) (zx_gr 1 1) zx_w0 109 19183 zx_l0 [.inl 1, .inr (.inl (some 73)), .inl 6] = true := by decide +kernel
set_option maxRecDepth 100000 in
theorem zy_1b : zx_fin (zx_ent zx_xa 0 1130 (zx_orc (29, 188, 1000000, 0, 0) (zx_gr 1 1) zx_w0 [(0, .inr (.inl (some 73))), (1, .inl 1)] [(zx_gr 1 1, zx_wt zx_t6, .inl (some (.inl 6)))] (zx_run zx_xa 100000)) (30, 0, 1130, 200, 20000) (zx_gr 1 1) zx_w0 109 19183 zx_l0 [.inl 1, .inr (.inl (some 73)), .inl 6] 1130) = true := by decide +kernel
theorem zq_endT {xa : List (Nat × Nat × List zx_V)} {p : Program} {l : Launch} {e : Env} {s : State} {m : MethodId} {below : List Frame} {meth : Method} {c : Code} {b bp : Nat} {ρ : Nat → Int32} {ex : Nat → Value} {D : va_G} {as : List Nat} {tys : List (ClassId × FieldType)} {ws : va_W} {H : Heap} {locs : List Loc} {ls : Array Slot} {sv : List Value} {g : zx_G} {w : zx_Wd} {cs sl pc : Nat} {lo : zx_L} {st : List zx_V} {outs : List zx_O}
    (hT : zt_T xa ρ ex D (30, 0, bp, 200, 20000) g w cs sl lo st pc outs) (h2 : ∀ o ∈ outs, o.2.2 = .inl (some (.inl 1))) (C : zy_C xa ρ ex p room_1 s m #[Value.ref b] meth c (fun q => s.heap.size ≤ q) (30, 0, bp, 200, 20000)) (hr : meth.sig.returnType = ret) (hlocks : meth.locks = false) (Dy : zy_D ρ ex D s (fun q => s.heap.size ≤ q) (30, 0, bp, 200, 20000) g w cs sl as tys ws H locs) (hl : zy_l ρ ex as ls 4 lo) (hs : zy_s ρ ex as st sv) : W p l e room_1 s m #[Value.ref b] below meth c H locs cs sl (lw_Z below #[Value.ref b] s) (F0 m pc ls sv) := by
  refine hT () C Dy hl hs ?_
  intro o ho as' tys' ws' H' locs' hp
  have ho := h2 o ho
  refine ⟨fun rv hrv cs' sl' pc' ls' st' Dy' hrt => ?_, fun cs' sl' lo' st' hrv => ?_⟩
  · rw [ho] at hrv
    cases hrv
    obtain ⟨v, rfl, hv, hd⟩ := hrt
    have hv : v = .int 1 := hv
    subst hv
    have hd : decode code pc' = .ok (.ireturn, 1) := by
      rcases hd with ⟨hd, -⟩ | ⟨-, hd, -⟩
      · exact hd
      · exact absurd (show (zx_info 0).2.1 = some .long from hd) (by decide +kernel)
    have hlocs : ∀ q ∈ locs', s.heap.size ≤ q.base := Dy'.2.2.2.1.2.2
    refine va_forget hlocs ?_
    refine W.widen (k := 600000) (n := 7302250) (Nat.le_trans Dy'.2.2.2.2.2.2.1 (Nat.le_of_ble_eq_true rfl)) (Nat.le_trans Dy'.2.2.2.2.2.2.2 (Nat.le_of_ble_eq_true rfl)) ?_
    exact lw_ret C.1 C.2.1 hr hlocks hd
  · rw [ho] at hrv
    cases hrv
theorem zq_gi {ρ : Nat → Int32} (lo hi : Int) (h1 : lo ≤ (ρ 1).toInt) (h2 : (ρ 1).toInt ≤ hi) : zy_g ρ (zx_gr lo hi) := by
  intro i q hq
  have hf : ∀ j, zx_full.1 ≤ (ρ j).toInt ∧ (ρ j).toInt ≤ zx_full.2 := fun j => ⟨Int32.le_toInt _, by have := Int32.toInt_lt (ρ j); show _ ≤ (2147483647 : Int); omega⟩
  match i, hq with
  | 0, hq => cases hq; exact hf 0
  | 1, hq => cases hq; exact ⟨h1, h2⟩
  | 2, hq => cases hq; exact hf 2
  | 3, hq => cases hq; exact hf 3
  | 4, hq => cases hq; exact hf 4
  | 5, hq => cases hq; exact hf 5
theorem zy_0 {ρ : Nat → Int32} {ex : Nat → Value} {D : va_G} : ∃ outs, zt_T zx_xa ρ ex D (30, 0, 1130, 200, 20000) (zx_gr 0 0) zx_w0 109 19183 zx_l0 [] 1115 outs ∧ ∀ o ∈ outs, o.2.2 = .inl (some (.inl 1)) := by
  obtain ⟨outs, h1, h2⟩ := zx_fin_ok zy_0b
  exact ⟨outs, zt_go (zt_run (zx_pz_ok zy_0a)) (zt_one (zo_snd (zs_run zk_tt zk_aa 100000) (zw_0 _)) rfl h1), h2⟩
theorem zy_1 {ρ : Nat → Int32} {ex : Nat → Value} {D : va_G} : ∃ outs, zt_T zx_xa ρ ex D (30, 0, 1130, 200, 20000) (zx_gr 1 1) zx_w0 109 19183 zx_l0 [] 1115 outs ∧ ∀ o ∈ outs, o.2.2 = .inl (some (.inl 1)) := by
  obtain ⟨outs, h1, h2⟩ := zx_fin_ok zy_1b
  exact ⟨outs, zt_go (zt_run (zx_pz_ok zy_1a)) (zt_one (zo_snd (zs_run zk_tt zk_aa 100000) (zw_1 _)) rfl h1), h2⟩
theorem zq_37 : zq_G 1115 := by
  intro p l e s m below meth c b ρ ex D as tys ws H locs ls C hr hlocks Dy hl
  have b1 := Int32.le_toInt (ρ 1)
  have b2 := Int32.toInt_lt (ρ 1)
  rcases Int.lt_or_le (ρ 1).toInt 0 with z | z
  · exact zq_one _ _ zv_37_m C hr hlocks Dy hl b1 (by omega)
  rcases Int.lt_or_le (ρ 1).toInt 2 with y | y
  rotate_left
  · exact zq_one _ _ zv_37_p C hr hlocks Dy hl y (by omega)
  by_cases x : (ρ 1).toInt = 0
  · obtain ⟨outs, h1, h2⟩ := zy_0 (ρ := ρ) (ex := ex) (D := D)
    exact zq_endT h1 h2 C hr hlocks (Dy.g (zq_gi 0 0 (by omega) (by omega))) hl trivial
  · obtain ⟨outs, h1, h2⟩ := zy_1 (ρ := ρ) (ex := ex) (D := D)
    exact zq_endT h1 h2 C hr hlocks (Dy.g (zq_gi 1 1 (by omega) (by omega))) hl trivial
