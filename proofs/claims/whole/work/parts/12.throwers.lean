theorem hd_X8_centsOf : yX8_centsOf.cls ≠ "java/lang/invoke/MethodHandle" ∧ yX8_centsOf.cls ≠ "java/lang/invoke/VarHandle" ∧ (parseMethodDescriptor yX8_centsOf.desc).map (fun d => d.parameters.length) = some 4 := by decide +kernel
theorem wc_X8_centsOf : Cond.code yX8_centsOf cX8_centsOf 9 (some .long) ∈ WALL := WALL_of (List.mem_of_getElem? (i := 737) (by decide +kernel)) (by decide +kernel)
theorem wi_X8_centsOf : Cond.instanceMethod yX8_centsOf ∈ WALL := WALL_of (List.mem_of_getElem? (i := 736) (by decide +kernel)) (by decide +kernel)
theorem ws_X8_centsOf : Cond.selects RX8 yX8_centsOf yX8_centsOf ∈ WALL := WALL_of (List.mem_of_getElem? (i := 47) (by decide +kernel)) (by decide +kernel)
theorem hd_X8_partAbove : yX8_partAbove.cls ≠ "java/lang/invoke/MethodHandle" ∧ yX8_partAbove.cls ≠ "java/lang/invoke/VarHandle" ∧ (parseMethodDescriptor yX8_partAbove.desc).map (fun d => d.parameters.length) = some 4 := by decide +kernel
theorem wc_X8_partAbove : Cond.code yX8_partAbove cX8_partAbove 12 (some .long) ∈ WALL := WALL_of (List.mem_of_getElem? (i := 759) (by decide +kernel)) (by decide +kernel)
theorem wi_X8_partAbove : Cond.instanceMethod yX8_partAbove ∈ WALL := WALL_of (List.mem_of_getElem? (i := 758) (by decide +kernel)) (by decide +kernel)
theorem ws_X8_partAbove : Cond.selects RX8 yX8_partAbove yX8_partAbove ∈ WALL := WALL_of (List.mem_of_getElem? (i := 48) (by decide +kernel)) (by decide +kernel)
section SITES2
variable {p : Program} {l : Launch} {e : Env} {R : Room} {s : State} {m : MethodId} {args : Array Value} {below : List Frame} {meth : Method} {c : Code} {H : Heap} {locs : List Loc} {Q : State → Prop}
variable {cc : ByteArray} {pc nL : Nat} {ls : Array Slot} {rest : List Value} {D : va_G} {cy : Nat → ClassId} {ad : Nat → Nat} {A : Nat → Prop} {z : Nat} {σ : Mem}
theorem ml_X8_142 : Cond.methodLink RX8 142 yX8_centsOf ∈ WALL := WALL_of (List.mem_of_getElem? (i := 734) (by decide +kernel)) (by decide +kernel)
theorem cs_X8_142 {a0 : Int32} {a1 : Int32} {a2 : Int32} {a3 : Int32} {ra : Int64} {τ : Mem} {v : Option Nat} {b : Nat} (ek : kT σ 8 v = some b) (hC : CallFix p m c cc nL s args WALL RX8) (hG : GS D cy A s) (hM : MS D cy ad A s.heap z σ H locs) (hct : CtL l yX8_centsOf cX8_centsOf 9 (some .long) 4 [.ref (ad b), .int a0, .int a1, .int a2, .int a3] D cy ad A z σ ra τ) (hR : 4 + 1 ≤ R.frames ∧ 8 + (9 + 11) + 36 * 4 ≤ R.locals) (hsz : ls.size = nL) (hW : (rest.map fun v => v.category).sum ≤ 8) (hdg : decode cc pc = .ok (.invokevirtual 142, 3)) (kk : ∀ (H : Heap) (locs : List Loc), MS D cy ad A s.heap z τ H locs → W p l e R s m args below meth c H locs 0 0 Q (F0 m (pc + 3) ls (.long ra :: rest))) : W p l e R s m args below meth c H locs 0 0 Q (F0 m pc ls (.int a3 :: .int a2 :: .int a1 :: .int a0 :: va_rf (Option.map ad v) :: rest)) :=
  callV_L (As := [.int a0, .int a1, .int a2, .int a3]) ek (by decide) rfl ml_X8_142 wi_X8_centsOf ws_X8_centsOf rfl wn_X8 wc_X8_centsOf hd_X8_centsOf hC hG hM hct hR hsz hW hdg rfl kk
theorem ml_X8_171 : Cond.methodLinkNest RX8 171 yX2_partFor "TariffDesk" ∈ NWL := NW_of (List.mem_of_getElem? (i := 755) (by decide +kernel)) rfl
theorem cs_X8_171 {a0 : Int32} {ra : Option Nat} {τ : Mem} {v : Option Nat} {b : Nat} (ek : kT σ 2 v = some b) (hC : CallFix p m c cc nL s args WALL RX8) (hG : GS D cy A s) (hM : MS D cy ad A s.heap z σ H locs) (hct : CtR l yX2_partFor cX2_partFor 2 (some (.object "TariffDesk$Part")) 1 [.ref (ad b), .int a0] D cy ad A z σ ra τ) (hR : 1 + 1 ≤ R.frames ∧ 8 + (2 + 11) + 36 * 1 ≤ R.locals) (hsz : ls.size = nL) (hW : (rest.map fun v => v.category).sum ≤ 8) (hdg : decode cc pc = .ok (.invokevirtual 171, 3)) (kk : ∀ (H : Heap) (locs : List Loc), MS D cy ad A s.heap z τ H locs → W p l e R s m args below meth c H locs 0 0 Q (F0 m (pc + 3) ls (va_rf (Option.map ad ra) :: rest))) : W p l e R s m args below meth c H locs 0 0 Q (F0 m pc ls (.int a0 :: va_rf (Option.map ad v) :: rest)) :=
  callVN_R (As := [.int a0]) ek (by decide) rfl ml_X8_171 wi_X2_partFor ws_X2_partFor rfl wn_X2 wc_X2_partFor hd_X2_partFor hC hG hM hct hR hsz hW hdg rfl kk
theorem ml_X8_175 : Cond.methodLink RX8 175 yX8_partAbove ∈ WALL := WALL_of (List.mem_of_getElem? (i := 756) (by decide +kernel)) (by decide +kernel)
theorem cs_X8_175 {a0 : Option Nat} {a1 : Option Nat} {a2 : Int32} {a3 : Int32} {ra : Int64} {τ : Mem} {v : Option Nat} {b : Nat} (ek : kT σ 8 v = some b) (hC : CallFix p m c cc nL s args WALL RX8) (hG : GS D cy A s) (hM : MS D cy ad A s.heap z σ H locs) (hct : CtL l yX8_partAbove cX8_partAbove 12 (some .long) 3 [.ref (ad b), va_rf (Option.map ad a0), va_rf (Option.map ad a1), .int a2, .int a3] D cy ad A z σ ra τ) (hR : 3 + 1 ≤ R.frames ∧ 8 + (12 + 11) + 36 * 3 ≤ R.locals) (hsz : ls.size = nL) (hW : (rest.map fun v => v.category).sum ≤ 8) (hdg : decode cc pc = .ok (.invokevirtual 175, 3)) (kk : ∀ (H : Heap) (locs : List Loc), MS D cy ad A s.heap z τ H locs → W p l e R s m args below meth c H locs 0 0 Q (F0 m (pc + 3) ls (.long ra :: rest))) : W p l e R s m args below meth c H locs 0 0 Q (F0 m pc ls (.int a3 :: .int a2 :: va_rf (Option.map ad a1) :: va_rf (Option.map ad a0) :: va_rf (Option.map ad v) :: rest)) :=
  callV_L (As := [va_rf (Option.map ad a0), va_rf (Option.map ad a1), .int a2, .int a3]) ek (by decide) rfl ml_X8_175 wi_X8_partAbove ws_X8_partAbove rfl wn_X8 wc_X8_partAbove hd_X8_partAbove hC hG hM hct hR hsz hW hdg rfl kk
theorem fl_X8_106 : Cond.fieldLinkNest RX8 106 "TariffDesk$Plan" "term" "I" "TariffDesk" ∈ NWL := NW_of (List.mem_of_getElem? (i := 177) (by decide +kernel)) rfl
theorem gf_X8_106 {v : Option Nat} {x : Int32} (hC : CallFix p m c cc nL s args WALL RX8) (hG : GS D cy A s) (hM : MS D cy ad A s.heap z σ H locs) (e1 : fI σ 2 4 v = some x) (hdg : decode cc pc = .ok (.getfield 106, 3)) (kk : W p l e R s m args below meth c H locs 0 0 Q (F0 m (pc + 3) ls (.int x :: rest))) : W p l e R s m args below meth c H locs 0 0 Q (F0 m pc ls (va_rf (Option.map ad v) :: rest)) :=
  gN_fI (ref := "TariffDesk$Plan") (T := TX2) hC inW2 hG hM 4 e1 (by decide) rfl rfl (by decide) rfl (hG.2.1 _ fl_X8_106) (fun _ h => h) hdg kk
theorem fl_X8_109 : Cond.fieldLinkNest RX8 109 "TariffDesk$Plan" "from" "I" "TariffDesk" ∈ NWL := NW_of (List.mem_of_getElem? (i := 180) (by decide +kernel)) rfl
theorem gf_X8_109 {v : Option Nat} {x : Int32} (hC : CallFix p m c cc nL s args WALL RX8) (hG : GS D cy A s) (hM : MS D cy ad A s.heap z σ H locs) (e1 : fI σ 2 5 v = some x) (hdg : decode cc pc = .ok (.getfield 109, 3)) (kk : W p l e R s m args below meth c H locs 0 0 Q (F0 m (pc + 3) ls (.int x :: rest))) : W p l e R s m args below meth c H locs 0 0 Q (F0 m pc ls (va_rf (Option.map ad v) :: rest)) :=
  gN_fI (ref := "TariffDesk$Plan") (T := TX2) hC inW2 hG hM 5 e1 (by decide) rfl rfl (by decide) rfl (hG.2.1 _ fl_X8_109) (fun _ h => h) hdg kk
theorem fl_X8_112 : Cond.fieldLinkNest RX8 112 "TariffDesk$Plan" "until" "I" "TariffDesk" ∈ NWL := NW_of (List.mem_of_getElem? (i := 183) (by decide +kernel)) rfl
theorem gf_X8_112 {v : Option Nat} {x : Int32} (hC : CallFix p m c cc nL s args WALL RX8) (hG : GS D cy A s) (hM : MS D cy ad A s.heap z σ H locs) (e1 : fI σ 2 6 v = some x) (hdg : decode cc pc = .ok (.getfield 112, 3)) (kk : W p l e R s m args below meth c H locs 0 0 Q (F0 m (pc + 3) ls (.int x :: rest))) : W p l e R s m args below meth c H locs 0 0 Q (F0 m pc ls (va_rf (Option.map ad v) :: rest)) :=
  gN_fI (ref := "TariffDesk$Plan") (T := TX2) hC inW2 hG hM 6 e1 (by decide) rfl rfl (by decide) rfl (hG.2.1 _ fl_X8_112) (fun _ h => h) hdg kk
theorem fl_X8_115 : Cond.fieldLinkNest RX8 115 "TariffDesk$Plan" "services" "I" "TariffDesk" ∈ NWL := NW_of (List.mem_of_getElem? (i := 186) (by decide +kernel)) rfl
theorem gf_X8_115 {v : Option Nat} {x : Int32} (hC : CallFix p m c cc nL s args WALL RX8) (hG : GS D cy A s) (hM : MS D cy ad A s.heap z σ H locs) (e1 : fI σ 2 7 v = some x) (hdg : decode cc pc = .ok (.getfield 115, 3)) (kk : W p l e R s m args below meth c H locs 0 0 Q (F0 m (pc + 3) ls (.int x :: rest))) : W p l e R s m args below meth c H locs 0 0 Q (F0 m pc ls (va_rf (Option.map ad v) :: rest)) :=
  gN_fI (ref := "TariffDesk$Plan") (T := TX2) hC inW2 hG hM 7 e1 (by decide) rfl rfl (by decide) rfl (hG.2.1 _ fl_X8_115) (fun _ h => h) hdg kk
theorem gf_X8_122 {v : Option Nat} {x : Int64} (hC : CallFix p m c cc nL s args WALL RX8) (hG : GS D cy A s) (hM : MS D cy ad A s.heap z σ H locs) (e1 : fJ σ 8 10 v = some x) (hdg : decode cc pc = .ok (.getfield 122, 3)) (kk : W p l e R s m args below meth c H locs 0 0 Q (F0 m (pc + 3) ls (.long x :: rest))) : W p l e R s m args below meth c H locs 0 0 Q (F0 m pc ls (va_rf (Option.map ad v) :: rest)) :=
  g_fJ (ref := "TariffDesk") (T := TX8) hC inW8 hG hM 10 e1 (by decide) rfl rfl (by decide) rfl (hC.2.2.2.2 _ fl_X8_122) (fun _ h => h) hdg kk
end SITES2
section WK
variable {p : Program} {l : Launch} {e : Env} {R : Room} {s : State} {m : MethodId} {args : Array Value} {below : List Frame} {meth : Method} {c : Code} {Q : State → Prop}
variable {D : va_G} {cy : Nat → ClassId} {ad : Nat → Nat} {A : Nat → Prop} {z : Nat}
/-! X8_plan (II)I -/
def fX8_plan (o0 : Nat) (x1 : Int32) (x2 : Int32) (σ : Mem) : Option (Option Int32 × Mem) :=
  (fR σ 8 8 (some o0)).bind fun t1 =>
    (kT σ 3 t1).bind fun k2 =>
    b2 (fX3_at k2 x1 σ) fun t3 m4 =>
    if t3 = none then some (none, m4)
    else (if x2 = 0 then (fI m4 2 3 t3).bind fun t7 =>
        some (some (t7), m4) else if x2 = 1 then (fI m4 2 4 t3).bind fun t9 =>
          some (some (t9), m4) else if x2 = 2 then (fI m4 2 5 t3).bind fun t11 =>
            some (some (t11), m4) else if x2 = 3 then (fI m4 2 6 t3).bind fun t13 =>
              some (some (t13), m4) else if x2 = 4 then (fI m4 2 7 t3).bind fun t15 =>
                some (some (t15), m4) else some (none, m4))
set_option maxRecDepth 20000 in
theorem wX8_plan {r : Option Int32} {σ' : Mem} (hC : CallFix p m c cX8_plan 4 s args WALL RX8) (hG : GS D cy A s) (hR : 6 ≤ R.frames ∧ 216 ≤ R.locals) (Kr : KrXI p l e R s m args below meth c cX8_plan 4 Q D cy ad A z r σ') (o0 : Nat) (x1 : Int32) (x2 : Int32) (σ : Mem) (H : Heap) (locs : List Loc) (ls : Array Slot) (h : fX8_plan o0 x1 x2 σ = some (r, σ')) (hM : MS D cy ad A s.heap z σ H locs) (hl : lv_has ls 4 [(0, va_rf (Option.map ad (some o0))), (1, .int x1), (2, .int x2)]) : W p l e R s m args below meth c H locs 0 0 Q (F0 m 0 ls []) := by
  have hx := hC.1
  have hb := hC.2.1
  unfold fX8_plan at h
  refine lr_aload_n hx hb dX8_plan_0 rfl (lv_at hl 0 rfl) ?_
  obtain ⟨t1, e_t1, h⟩ := bn h
  refine gf_X8_59 hC hG hM e_t1 dX8_plan_1 ?_
  refine lv_iload_n hx hb dX8_plan_4 rfl (lv_at hl 1 rfl) ?_
  obtain ⟨k2, e_k2, h⟩ := bn h
  obtain ⟨t3, m4, e_m4, h⟩ := b2_elim h
  refine cs_X8_94 e_k2 hC hG hM (cX3_at_ok e_m4) ⟨by omega, by omega⟩ hl.1 (by first | exact Nat.le_of_ble_eq_true rfl | simp [va_cat, vcI, vcL, vcR]) dX8_plan_5 (fun H locs hM => ?_)
  refine lr_astore_n (lv' := [(3, va_rf (Option.map ad t3)), (0, va_rf (Option.map ad (some o0))), (1, .int x1), (2, .int x2)]) hx hb dX8_plan_8 rfl hl (by decide) (by first | rfl | simp [va_cat]) (fun ls hl => ?_)
  refine lr_aload_n hx hb dX8_plan_9 rfl (lv_at hl 0 rfl) ?_
  refine lr_ifnonnull (tgt := 21) hx hb dX8_plan_10 (by decide) (fun c5 => ?_) (fun c5 => ?_)
  · rw [if_neg c5] at h
    refine lv_iload_n hx hb dX8_plan_21 rfl (lv_at hl 3 rfl) ?_
    by_cases c6 : x2 = 0
    · rw [if_pos c6] at h
      refine lv_tableIn (tgt := 56) hx hb dX8_plan_22 (by rw [c6]; decide) (by rw [c6]; decide) (by rw [c6]; rfl) (by decide) ?_
      refine lr_aload_n hx hb dX8_plan_56 rfl (lv_at hl 0 rfl) ?_
      obtain ⟨t7, e_t7, h⟩ := bn h
      refine gf_X8_101 hC hG hM e_t7 dX8_plan_57 ?_
      obtain ⟨rfl, rfl⟩ := Prod.mk.inj (Option.some.inj h)
      exact Kr.1 _ rfl _ _ _ _ dX8_plan_60 hM
    · rw [if_neg c6] at h
      by_cases c8 : x2 = 1
      · rw [if_pos c8] at h
        refine lv_tableIn (tgt := 61) hx hb dX8_plan_22 (by rw [c8]; decide) (by rw [c8]; decide) (by rw [c8]; rfl) (by decide) ?_
        refine lr_aload_n hx hb dX8_plan_61 rfl (lv_at hl 0 rfl) ?_
        obtain ⟨t9, e_t9, h⟩ := bn h
        refine gf_X8_106 hC hG hM e_t9 dX8_plan_62 ?_
        obtain ⟨rfl, rfl⟩ := Prod.mk.inj (Option.some.inj h)
        exact Kr.1 _ rfl _ _ _ _ dX8_plan_65 hM
      · rw [if_neg c8] at h
        by_cases c10 : x2 = 2
        · rw [if_pos c10] at h
          refine lv_tableIn (tgt := 66) hx hb dX8_plan_22 (by rw [c10]; decide) (by rw [c10]; decide) (by rw [c10]; rfl) (by decide) ?_
          refine lr_aload_n hx hb dX8_plan_66 rfl (lv_at hl 0 rfl) ?_
          obtain ⟨t11, e_t11, h⟩ := bn h
          refine gf_X8_109 hC hG hM e_t11 dX8_plan_67 ?_
          obtain ⟨rfl, rfl⟩ := Prod.mk.inj (Option.some.inj h)
          exact Kr.1 _ rfl _ _ _ _ dX8_plan_70 hM
        · rw [if_neg c10] at h
          by_cases c12 : x2 = 3
          · rw [if_pos c12] at h
            refine lv_tableIn (tgt := 71) hx hb dX8_plan_22 (by rw [c12]; decide) (by rw [c12]; decide) (by rw [c12]; rfl) (by decide) ?_
            refine lr_aload_n hx hb dX8_plan_71 rfl (lv_at hl 0 rfl) ?_
            obtain ⟨t13, e_t13, h⟩ := bn h
            refine gf_X8_112 hC hG hM e_t13 dX8_plan_72 ?_
            obtain ⟨rfl, rfl⟩ := Prod.mk.inj (Option.some.inj h)
            exact Kr.1 _ rfl _ _ _ _ dX8_plan_75 hM
          · rw [if_neg c12] at h
            by_cases c14 : x2 = 4
            · rw [if_pos c14] at h
              refine lv_tableIn (tgt := 76) hx hb dX8_plan_22 (by rw [c14]; decide) (by rw [c14]; decide) (by rw [c14]; rfl) (by decide) ?_
              refine lr_aload_n hx hb dX8_plan_76 rfl (lv_at hl 0 rfl) ?_
              obtain ⟨t15, e_t15, h⟩ := bn h
              refine gf_X8_115 hC hG hM e_t15 dX8_plan_77 ?_
              obtain ⟨rfl, rfl⟩ := Prod.mk.inj (Option.some.inj h)
              exact Kr.1 _ rfl _ _ _ _ dX8_plan_80 hM
            · rw [if_neg c14] at h
              refine lv_tableOut (tgt := 81) hx hb dX8_plan_22 (by have n_c6 := lv_neT c6 (show (0 : Int32).toInt = 0 from rfl); have n_c8 := lv_neT c8 (show (1 : Int32).toInt = 1 from rfl); have n_c10 := lv_neT c10 (show (2 : Int32).toInt = 2 from rfl); have n_c12 := lv_neT c12 (show (3 : Int32).toInt = 3 from rfl); have n_c14 := lv_neT c14 (show (4 : Int32).toInt = 4 from rfl); omega) (by decide) ?_
              obtain ⟨rfl, rfl⟩ := Prod.mk.inj (Option.some.inj h)
              exact Kr.2 rfl _ _ _ _ dX8_plan_81 dX8_plan_84 dX8_plan_85 dX8_plan_88 hl.1 hM
  · rw [if_pos c5] at h
    obtain ⟨rfl, rfl⟩ := Prod.mk.inj (Option.some.inj h)
    exact Kr.2 rfl _ _ _ _ dX8_plan_13 dX8_plan_16 dX8_plan_17 dX8_plan_20 hl.1 hM
theorem cX8_plan_ok {l : Launch} {D : va_G} {cy : Nat → ClassId} {ad : Nat → Nat} {A : Nat → Prop} {z : Nat} {r : Option Int32} {σ' : Mem} {o0 : Nat} {x1 : Int32} {x2 : Int32} {σ : Mem} (hls : l.stackTraces = false) (h : fX8_plan o0 x1 x2 σ = some (r, σ')) : CtXI l yX8_plan cX8_plan 4 (some .int) 6 [.ref (ad o0), .int x1, .int x2] D cy ad A z σ r σ' :=
  enterXI hls (by decide) rfl (Nat.le_of_ble_eq_true rfl) (by decide) rfl (fun p e s m below meth c Q ls hC hG hM Kr hl => wX8_plan hC hG ⟨Nat.le_refl _, Nat.le_refl _⟩ Kr _ _ _ _ _ _ _ h hM hl)
/-! X8_octet (I)I -/
def fX8_octet_b12    (σ : Mem) : Option (Option Int32 × Mem) :=
  some (none, σ)
set_option maxRecDepth 20000 in
theorem wX8_octet_b12 {r : Option Int32} {σ' : Mem} (hC : CallFix p m c cX8_octet 2 s args WALL RX8) (hG : GS D cy A s) (hR : 6 ≤ R.frames ∧ 216 ≤ R.locals) (Kr : KrXI p l e R s m args below meth c cX8_octet 2 Q D cy ad A z r σ')    (σ : Mem) (H : Heap) (locs : List Loc) (ls : Array Slot) (h : fX8_octet_b12  σ = some (r, σ')) (hM : MS D cy ad A s.heap z σ H locs) (hl : lv_has ls 2 []) : W p l e R s m args below meth c H locs 0 0 Q (F0 m 12 ls []) := by
  have hx := hC.1
  have hb := hC.2.1
  unfold fX8_octet_b12 at h
  obtain ⟨rfl, rfl⟩ := Prod.mk.inj (Option.some.inj h)
  exact Kr.2 rfl _ _ _ _ dX8_octet_12 dX8_octet_15 dX8_octet_16 dX8_octet_19 hl.1 hM
def fX8_octet (o0 : Nat) (x1 : Int32) (σ : Mem) : Option (Option Int32 × Mem) :=
  if x1 < 0 then fX8_octet_b12 σ
    else (fI σ 8 11 (some o0)).bind fun t2 =>
      if x1 < t2 then (fJ σ 8 10 (some o0)).bind fun t4 =>
        (fI σ 8 11 (some o0)).bind fun t5 =>
        some (some (((t4 >>> (((8 * ((t5 - 1) - x1)) : Int32).toInt64 &&& 63) : Int64).toInt32) &&& 255), σ)
      else fX8_octet_b12 σ
set_option maxRecDepth 20000 in
theorem wX8_octet {r : Option Int32} {σ' : Mem} (hC : CallFix p m c cX8_octet 2 s args WALL RX8) (hG : GS D cy A s) (hR : 6 ≤ R.frames ∧ 216 ≤ R.locals) (Kr : KrXI p l e R s m args below meth c cX8_octet 2 Q D cy ad A z r σ') (o0 : Nat) (x1 : Int32) (σ : Mem) (H : Heap) (locs : List Loc) (ls : Array Slot) (h : fX8_octet o0 x1 σ = some (r, σ')) (hM : MS D cy ad A s.heap z σ H locs) (hl : lv_has ls 2 [(0, va_rf (Option.map ad (some o0))), (1, .int x1)]) : W p l e R s m args below meth c H locs 0 0 Q (F0 m 0 ls []) := by
  have hx := hC.1
  have hb := hC.2.1
  unfold fX8_octet at h
  refine lv_iload_n hx hb dX8_octet_0 rfl (lv_at hl 1 rfl) ?_
  refine lv_if_lt (tgt := 12) hx hb dX8_octet_1 (by decide) (fun c1 => ?_) (fun c1 => ?_)
  · rw [if_pos c1] at h
    exact wX8_octet_b12 hC hG hR Kr _ _ _ _ h hM (lv_sub hl [] rfl)
  · rw [if_neg c1] at h
    refine lv_iload_n hx hb dX8_octet_4 rfl (lv_at hl 1 rfl) ?_
    refine lr_aload_n hx hb dX8_octet_5 rfl (lv_at hl 0 rfl) ?_
    obtain ⟨t2, e_t2, h⟩ := bn h
    refine gf_X8_128 hC hG hM e_t2 dX8_octet_6 ?_
    refine lv_icmp_lt (tgt := 20) hx hb dX8_octet_9 (by decide) (fun c3 => ?_) (fun c3 => ?_)
    · rw [if_pos c3] at h
      refine lr_aload_n hx hb dX8_octet_20 rfl (lv_at hl 0 rfl) ?_
      obtain ⟨t4, e_t4, h⟩ := bn h
      refine gf_X8_122 hC hG hM e_t4 dX8_octet_21 ?_
      refine lv_bipush (v := 8) hx hb dX8_octet_24 (by decide) ?_
      refine lr_aload_n hx hb dX8_octet_26 rfl (lv_at hl 0 rfl) ?_
      obtain ⟨t5, e_t5, h⟩ := bn h
      refine gf_X8_128 hC hG hM e_t5 dX8_octet_27 ?_
      refine lv_iconst (v := 1) hx hb dX8_octet_30 (by decide) ?_
      refine lv_isub hx hb dX8_octet_31 ?_
      refine lv_iload_n hx hb dX8_octet_32 rfl (lv_at hl 1 rfl) ?_
      refine lv_isub hx hb dX8_octet_33 ?_
      refine lv_imul hx hb dX8_octet_34 ?_
      refine lv_lshr hx hb dX8_octet_35 rfl ?_
      refine lv_l2i hx hb dX8_octet_36 rfl ?_
      refine lv_sipush (v := 255) hx hb dX8_octet_37 (by decide) ?_
      refine lv_iand hx hb dX8_octet_40 ?_
      obtain ⟨rfl, rfl⟩ := Prod.mk.inj (Option.some.inj h)
      exact Kr.1 _ rfl _ _ _ _ dX8_octet_41 hM
    · rw [if_neg c3] at h
      exact wX8_octet_b12 hC hG hR Kr _ _ _ _ h hM (lv_sub hl [] rfl)
theorem cX8_octet_ok {l : Launch} {D : va_G} {cy : Nat → ClassId} {ad : Nat → Nat} {A : Nat → Prop} {z : Nat} {r : Option Int32} {σ' : Mem} {o0 : Nat} {x1 : Int32} {σ : Mem} (hls : l.stackTraces = false) (h : fX8_octet o0 x1 σ = some (r, σ')) : CtXI l yX8_octet cX8_octet 2 (some .int) 6 [.ref (ad o0), .int x1] D cy ad A z σ r σ' :=
  enterXI hls (by decide) rfl (Nat.le_of_ble_eq_true rfl) (by decide) rfl (fun p e s m below meth c Q ls hC hG hM Kr hl => wX8_octet hC hG ⟨Nat.le_refl _, Nat.le_refl _⟩ Kr _ _ _ _ _ _ h hM hl)
/-! X8_cost (IIII)J -/
def fX8_cost (o0 : Nat) (x1 : Int32) (x2 : Int32) (x3 : Int32) (x4 : Int32) (σ : Mem) : Option (Option Int64 × Mem) :=
  (kT σ 8 (some o0)).bind fun k1 =>
    b2 (fX8_centsOf k1 x1 x2 x3 x4 σ) fun t2 m3 =>
    if t2 = (-1) then some (none, m3)
    else some (some (t2), m3)
set_option maxRecDepth 20000 in
theorem wX8_cost {r : Option Int64} {σ' : Mem} (hC : CallFix p m c cX8_cost 7 s args WALL RX8) (hG : GS D cy A s) (hR : 6 ≤ R.frames ∧ 216 ≤ R.locals) (Kr : KrXL p l e R s m args below meth c cX8_cost 7 Q D cy ad A z r σ') (o0 : Nat) (x1 : Int32) (x2 : Int32) (x3 : Int32) (x4 : Int32) (σ : Mem) (H : Heap) (locs : List Loc) (ls : Array Slot) (h : fX8_cost o0 x1 x2 x3 x4 σ = some (r, σ')) (hM : MS D cy ad A s.heap z σ H locs) (hl : lv_has ls 7 [(0, va_rf (Option.map ad (some o0))), (1, .int x1), (2, .int x2), (3, .int x3), (4, .int x4)]) : W p l e R s m args below meth c H locs 0 0 Q (F0 m 0 ls []) := by
  have hx := hC.1
  have hb := hC.2.1
  unfold fX8_cost at h
  refine lr_aload_n hx hb dX8_cost_0 rfl (lv_at hl 0 rfl) ?_
  refine lv_iload_n hx hb dX8_cost_1 rfl (lv_at hl 1 rfl) ?_
  refine lv_iload_n hx hb dX8_cost_2 rfl (lv_at hl 2 rfl) ?_
  refine lv_iload_n hx hb dX8_cost_3 rfl (lv_at hl 3 rfl) ?_
  refine lv_iload hx hb dX8_cost_4 (lv_at hl 4 rfl) ?_
  obtain ⟨k1, e_k1, h⟩ := bn h
  obtain ⟨t2, m3, e_m3, h⟩ := b2_elim h
  refine cs_X8_142 e_k1 hC hG hM (cX8_centsOf_ok e_m3) ⟨by omega, by omega⟩ hl.1 (by first | exact Nat.le_of_ble_eq_true rfl | simp [va_cat, vcI, vcL, vcR]) dX8_cost_6 (fun H locs hM => ?_)
  refine lv_lstore (lv' := [(5, .long t2), (0, va_rf (Option.map ad (some o0))), (1, .int x1), (2, .int x2), (3, .int x3), (4, .int x4)]) hx hb dX8_cost_9 hl (by decide) (by first | rfl | simp [va_cat]) (fun ls hl => ?_)
  refine lv_lload hx hb dX8_cost_11 (lv_at hl 0 rfl) ?_
  refine lv_ldc2 (v := (-1)) hx hb hC.2.2.2.1 (hC.2.2.2.2 _ wk_X8_146) dX8_cost_13 ?_
  refine lc_ne (tgt := 28) hx hb dX8_cost_16 dX8_cost_17 (by decide) (fun c4 => ?_) (fun c4 => ?_)
  · rw [if_neg c4] at h
    refine lv_lload hx hb dX8_cost_28 (lv_at hl 0 rfl) ?_
    obtain ⟨rfl, rfl⟩ := Prod.mk.inj (Option.some.inj h)
    exact Kr.1 _ rfl _ _ _ _ dX8_cost_30 hM
  · rw [if_pos c4] at h
    obtain ⟨rfl, rfl⟩ := Prod.mk.inj (Option.some.inj h)
    exact Kr.2 rfl _ _ _ _ dX8_cost_20 dX8_cost_23 dX8_cost_24 dX8_cost_27 hl.1 hM
theorem cX8_cost_ok {l : Launch} {D : va_G} {cy : Nat → ClassId} {ad : Nat → Nat} {A : Nat → Prop} {z : Nat} {r : Option Int64} {σ' : Mem} {o0 : Nat} {x1 : Int32} {x2 : Int32} {x3 : Int32} {x4 : Int32} {σ : Mem} (hls : l.stackTraces = false) (h : fX8_cost o0 x1 x2 x3 x4 σ = some (r, σ')) : CtXL l yX8_cost cX8_cost 7 (some .long) 6 [.ref (ad o0), .int x1, .int x2, .int x3, .int x4] D cy ad A z σ r σ' :=
  enterXL hls (by decide) rfl (Nat.le_of_ble_eq_true rfl) (by decide) rfl (fun p e s m below meth c Q ls hC hG hM Kr hl => wX8_cost hC hG ⟨Nat.le_refl _, Nat.le_refl _⟩ Kr _ _ _ _ _ _ _ _ _ h hM hl)
/-! X8_bill (IIIJ)J -/
def fX8_bill_b25  (x4 : Int64) (y0 : Int64) (σ : Mem) : Option (Option Int64 × Mem) :=
  if y0 = (-1) then some (none, σ)
    else some (some (x4 - y0), σ)
set_option maxRecDepth 20000 in
theorem wX8_bill_b25 {r : Option Int64} {σ' : Mem} (hC : CallFix p m c cX8_bill 8 s args WALL RX8) (hG : GS D cy A s) (hR : 6 ≤ R.frames ∧ 216 ≤ R.locals) (Kr : KrXL p l e R s m args below meth c cX8_bill 8 Q D cy ad A z r σ')  (x4 : Int64) (y0 : Int64) (σ : Mem) (H : Heap) (locs : List Loc) (ls : Array Slot) (h : fX8_bill_b25 x4 y0 σ = some (r, σ')) (hM : MS D cy ad A s.heap z σ H locs) (hl : lv_has ls 8 [(4, .long x4)]) : W p l e R s m args below meth c H locs 0 0 Q (F0 m 25 ls [.long y0]) := by
  have hx := hC.1
  have hb := hC.2.1
  unfold fX8_bill_b25 at h
  refine lv_lstore (lv' := [(6, .long y0), (4, .long x4)]) hx hb dX8_bill_25 hl (by decide) (by first | rfl | simp [va_cat]) (fun ls hl => ?_)
  refine lv_lload hx hb dX8_bill_27 (lv_at hl 0 rfl) ?_
  refine lv_ldc2 (v := (-1)) hx hb hC.2.2.2.1 (hC.2.2.2.2 _ wk_X8_146) dX8_bill_29 ?_
  refine lc_ne (tgt := 44) hx hb dX8_bill_32 dX8_bill_33 (by decide) (fun c1 => ?_) (fun c1 => ?_)
  · rw [if_neg c1] at h
    refine lv_lload hx hb dX8_bill_44 (lv_at hl 1 rfl) ?_
    refine lv_lload hx hb dX8_bill_46 (lv_at hl 0 rfl) ?_
    refine lv_lsub hx hb dX8_bill_48 ?_
    obtain ⟨rfl, rfl⟩ := Prod.mk.inj (Option.some.inj h)
    exact Kr.1 _ rfl _ _ _ _ dX8_bill_49 hM
  · rw [if_pos c1] at h
    obtain ⟨rfl, rfl⟩ := Prod.mk.inj (Option.some.inj h)
    exact Kr.2 rfl _ _ _ _ dX8_bill_36 dX8_bill_39 dX8_bill_40 dX8_bill_43 hl.1 hM
def fX8_bill (o0 : Nat) (x1 : Int32) (x2 : Int32) (x3 : Int32) (x4 : Int64) (σ : Mem) : Option (Option Int64 × Mem) :=
  b2 (fX8_isWithin x2 0 3 σ) fun t1 m2 =>
    if t1 = 0 then fX8_bill_b25 x4 (-1) m2
    else (kT m2 8 (some o0)).bind fun k4 =>
      b2 (fX8_centsOf k4 x1 (1 <<< (x2 &&& 31)) x3 0 m2) fun t5 m6 =>
      fX8_bill_b25 x4 t5 m6
set_option maxRecDepth 20000 in
theorem wX8_bill {r : Option Int64} {σ' : Mem} (hC : CallFix p m c cX8_bill 8 s args WALL RX8) (hG : GS D cy A s) (hR : 6 ≤ R.frames ∧ 216 ≤ R.locals) (Kr : KrXL p l e R s m args below meth c cX8_bill 8 Q D cy ad A z r σ') (o0 : Nat) (x1 : Int32) (x2 : Int32) (x3 : Int32) (x4 : Int64) (σ : Mem) (H : Heap) (locs : List Loc) (ls : Array Slot) (h : fX8_bill o0 x1 x2 x3 x4 σ = some (r, σ')) (hM : MS D cy ad A s.heap z σ H locs) (hl : lv_has ls 8 [(0, va_rf (Option.map ad (some o0))), (1, .int x1), (2, .int x2), (3, .int x3), (4, .long x4)]) : W p l e R s m args below meth c H locs 0 0 Q (F0 m 0 ls []) := by
  have hx := hC.1
  have hb := hC.2.1
  unfold fX8_bill at h
  refine lv_iload_n hx hb dX8_bill_0 rfl (lv_at hl 2 rfl) ?_
  refine lv_iconst (v := 0) hx hb dX8_bill_1 (by decide) ?_
  refine lv_iconst (v := 3) hx hb dX8_bill_2 (by decide) ?_
  obtain ⟨t1, m2, e_m2, h⟩ := b2_elim h
  refine cs_X8_148 hC hG hM (cX8_isWithin_ok e_m2) ⟨by omega, by omega⟩ hl.1 (by first | exact Nat.le_of_ble_eq_true rfl | simp [va_cat, vcI, vcL, vcR]) dX8_bill_3 (fun H locs hM => ?_)
  refine lv_if_eq (tgt := 22) hx hb dX8_bill_6 (by decide) (fun c3 => ?_) (fun c3 => ?_)
  · rw [if_pos c3] at h
    refine lv_ldc2 (v := (-1)) hx hb hC.2.2.2.1 (hC.2.2.2.2 _ wk_X8_146) dX8_bill_22 ?_
    exact wX8_bill_b25 hC hG hR Kr _ _ _ _ _ _ h hM (lv_sub hl [4] rfl)
  · rw [if_neg c3] at h
    refine lr_aload_n hx hb dX8_bill_9 rfl (lv_at hl 0 rfl) ?_
    refine lv_iload_n hx hb dX8_bill_10 rfl (lv_at hl 1 rfl) ?_
    refine lv_iconst (v := 1) hx hb dX8_bill_11 (by decide) ?_
    refine lv_iload_n hx hb dX8_bill_12 rfl (lv_at hl 2 rfl) ?_
    refine lv_ishl hx hb dX8_bill_13 ?_
    refine lv_iload_n hx hb dX8_bill_14 rfl (lv_at hl 3 rfl) ?_
    refine lv_iconst (v := 0) hx hb dX8_bill_15 (by decide) ?_
    obtain ⟨k4, e_k4, h⟩ := bn h
    obtain ⟨t5, m6, e_m6, h⟩ := b2_elim h
    refine cs_X8_142 e_k4 hC hG hM (cX8_centsOf_ok e_m6) ⟨by omega, by omega⟩ hl.1 (by first | exact Nat.le_of_ble_eq_true rfl | simp [va_cat, vcI, vcL, vcR]) dX8_bill_16 (fun H locs hM => ?_)
    refine lv_goto (tgt := 25) hx hb dX8_bill_19 (by decide) ?_
    exact wX8_bill_b25 hC hG hR Kr _ _ _ _ _ _ h hM (lv_sub hl [4] rfl)
theorem cX8_bill_ok {l : Launch} {D : va_G} {cy : Nat → ClassId} {ad : Nat → Nat} {A : Nat → Prop} {z : Nat} {r : Option Int64} {σ' : Mem} {o0 : Nat} {x1 : Int32} {x2 : Int32} {x3 : Int32} {x4 : Int64} {σ : Mem} (hls : l.stackTraces = false) (h : fX8_bill o0 x1 x2 x3 x4 σ = some (r, σ')) : CtXL l yX8_bill cX8_bill 8 (some .long) 6 [.ref (ad o0), .int x1, .int x2, .int x3, .long x4] D cy ad A z σ r σ' :=
  enterXL hls (by decide) rfl (Nat.le_of_ble_eq_true rfl) (by decide) rfl (fun p e s m below meth c Q ls hC hG hM Kr hl => wX8_bill hC hG ⟨Nat.le_refl _, Nat.le_refl _⟩ Kr _ _ _ _ _ _ _ _ _ h hM hl)
/-! X8_above (IIZ)J -/
def fX8_above_b130  (x6 : Int64)  (σ : Mem) : Option (Option Int64 × Mem) :=
  some (some (x6), σ)
set_option maxRecDepth 20000 in
theorem wX8_above_b130 {r : Option Int64} {σ' : Mem} (hC : CallFix p m c cX8_above 11 s args WALL RX8) (hG : GS D cy A s) (hR : 6 ≤ R.frames ∧ 216 ≤ R.locals) (Kr : KrXL p l e R s m args below meth c cX8_above 11 Q D cy ad A z r σ')  (x6 : Int64)  (σ : Mem) (H : Heap) (locs : List Loc) (ls : Array Slot) (h : fX8_above_b130 x6 σ = some (r, σ')) (hM : MS D cy ad A s.heap z σ H locs) (hl : lv_has ls 11 [(6, .long x6)]) : W p l e R s m args below meth c H locs 0 0 Q (F0 m 130 ls []) := by
  have hx := hC.1
  have hb := hC.2.1
  unfold fX8_above_b130 at h
  refine lv_lload hx hb dX8_above_130 (lv_at hl 0 rfl) ?_
  obtain ⟨rfl, rfl⟩ := Prod.mk.inj (Option.some.inj h)
  exact Kr.1 _ rfl _ _ _ _ dX8_above_132 hM
def fX8_above_b124 (rc56 : Nat → Int32 → (Option Nat) → (Option Nat) → Int64 → Int32 → Mem → Option (Option Int64 × Mem)) (o0 : Nat) (x3 : Int32) (x4 : Option Nat) (x5 : Option Nat) (x6 : Int64) (x8 : Int32)  (σ : Mem) : Option (Option Int64 × Mem) :=
  bd (x8 + 1) fun t1 =>
    rc56 o0 x3 x4 x5 x6 t1 σ
set_option maxRecDepth 20000 in
theorem wX8_above_b124 {r : Option Int64} {σ' : Mem} (hC : CallFix p m c cX8_above 11 s args WALL RX8) (hG : GS D cy A s) (hR : 6 ≤ R.frames ∧ 216 ≤ R.locals) (Kr : KrXL p l e R s m args below meth c cX8_above 11 Q D cy ad A z r σ') {rc56 : Nat → Int32 → (Option Nat) → (Option Nat) → Int64 → Int32 → Mem → Option (Option Int64 × Mem)} (Kc56 : ∀ (o0 : Nat) (x3 : Int32) (x4 : Option Nat) (x5 : Option Nat) (x6 : Int64) (x8 : Int32) (τ : Mem) (H : Heap) (locs : List Loc) (ls : Array Slot), rc56 o0 x3 x4 x5 x6 x8 τ = some (r, σ') → MS D cy ad A s.heap z τ H locs → lv_has ls 11 [(0, va_rf (Option.map ad (some o0))), (3, .int x3), (4, va_rf (Option.map ad x4)), (5, va_rf (Option.map ad x5)), (6, .long x6), (8, .int x8)] → W p l e R s m args below meth c H locs 0 0 Q (F0 m 56 ls [])) (o0 : Nat) (x3 : Int32) (x4 : Option Nat) (x5 : Option Nat) (x6 : Int64) (x8 : Int32)  (σ : Mem) (H : Heap) (locs : List Loc) (ls : Array Slot) (h : fX8_above_b124 rc56 o0 x3 x4 x5 x6 x8 σ = some (r, σ')) (hM : MS D cy ad A s.heap z σ H locs) (hl : lv_has ls 11 [(0, va_rf (Option.map ad (some o0))), (3, .int x3), (4, va_rf (Option.map ad x4)), (5, va_rf (Option.map ad x5)), (6, .long x6), (8, .int x8)]) : W p l e R s m args below meth c H locs 0 0 Q (F0 m 124 ls []) := by
  have hx := hC.1
  have hb := hC.2.1
  unfold fX8_above_b124 at h
  obtain ⟨t1, e_t1, h⟩ := bd_elim h
  refine lv_iinc (v := t1) (lv' := [(8, .int t1), (0, va_rf (Option.map ad (some o0))), (3, .int x3), (4, va_rf (Option.map ad x4)), (5, va_rf (Option.map ad x5)), (6, .long x6)]) hx hb dX8_above_124 hl (k := 5) rfl (by rw [e_t1]; rfl) (by decide) (by first | rfl | simp [va_cat]) (fun ls hl => ?_)
  refine lv_goto (tgt := 56) hx hb dX8_above_127 (by decide) ?_
  exact Kc56 _ _ _ _ _ _ _ _ _ _ h hM (lv_sub hl [1, 2, 3, 4, 5, 0] rfl)
def fX8_above_b100 (rc56 : Nat → Int32 → (Option Nat) → (Option Nat) → Int64 → Int32 → Mem → Option (Option Int64 × Mem))   (σ : Mem) : Option (Option Int64 × Mem) :=
  some (none, σ)
set_option maxRecDepth 20000 in
theorem wX8_above_b100 {r : Option Int64} {σ' : Mem} (hC : CallFix p m c cX8_above 11 s args WALL RX8) (hG : GS D cy A s) (hR : 6 ≤ R.frames ∧ 216 ≤ R.locals) (Kr : KrXL p l e R s m args below meth c cX8_above 11 Q D cy ad A z r σ') {rc56 : Nat → Int32 → (Option Nat) → (Option Nat) → Int64 → Int32 → Mem → Option (Option Int64 × Mem)} (Kc56 : ∀ (o0 : Nat) (x3 : Int32) (x4 : Option Nat) (x5 : Option Nat) (x6 : Int64) (x8 : Int32) (τ : Mem) (H : Heap) (locs : List Loc) (ls : Array Slot), rc56 o0 x3 x4 x5 x6 x8 τ = some (r, σ') → MS D cy ad A s.heap z τ H locs → lv_has ls 11 [(0, va_rf (Option.map ad (some o0))), (3, .int x3), (4, va_rf (Option.map ad x4)), (5, va_rf (Option.map ad x5)), (6, .long x6), (8, .int x8)] → W p l e R s m args below meth c H locs 0 0 Q (F0 m 56 ls []))   (σ : Mem) (H : Heap) (locs : List Loc) (ls : Array Slot) (h : fX8_above_b100 rc56  σ = some (r, σ')) (hM : MS D cy ad A s.heap z σ H locs) (hl : lv_has ls 11 []) : W p l e R s m args below meth c H locs 0 0 Q (F0 m 100 ls []) := by
  have hx := hC.1
  have hb := hC.2.1
  unfold fX8_above_b100 at h
  obtain ⟨rfl, rfl⟩ := Prod.mk.inj (Option.some.inj h)
  exact Kr.2 rfl _ _ _ _ dX8_above_100 dX8_above_103 dX8_above_104 dX8_above_107 hl.1 hM
def fX8_above_b56  : Nat → Nat → Int32 → (Option Nat) → (Option Nat) → Int64 → Int32 → Mem → Option (Option Int64 × Mem)
  | 0, _, _, _, _, _, _, _ => none
  | n + 1, o0, x3, x4, x5, x6, x8, σ =>
    if 4 ≤ x8 then fX8_above_b130 x6 σ
      else (fR σ 8 6 (some o0)).bind fun t2 =>
        (aI σ 11 t2 x8).bind fun t3 =>
        if t3 ≤ 0 then fX8_above_b124 (fX8_above_b56 n) o0 x3 x4 x5 x6 x8 σ
        else (kT σ 2 x4).bind fun k5 =>
          b2 (fX2_partFor k5 x8 σ) fun t6 m7 =>
          (kT m7 2 x5).bind fun k8 =>
          b2 (fX2_partFor k8 x8 m7) fun t9 m10 =>
          if t6 = none then fX8_above_b100 (fX8_above_b56 n) m10
          else if t9 = none then fX8_above_b100 (fX8_above_b56 n) m10
            else (kT m10 8 (some o0)).bind fun k13 =>
              b2 (fX8_partAbove k13 t6 t9 x8 x3 m10) fun t14 m15 =>
              bd (x6 + t14) fun t16 =>
              fX8_above_b124 (fX8_above_b56 n) o0 x3 x4 x5 t16 x8 m15
set_option maxRecDepth 20000 in
theorem wX8_above_b56 {r : Option Int64} {σ' : Mem} (hC : CallFix p m c cX8_above 11 s args WALL RX8) (hG : GS D cy A s) (hR : 6 ≤ R.frames ∧ 216 ≤ R.locals) (Kr : KrXL p l e R s m args below meth c cX8_above 11 Q D cy ad A z r σ')  : ∀ (n : Nat) (o0 : Nat) (x3 : Int32) (x4 : Option Nat) (x5 : Option Nat) (x6 : Int64) (x8 : Int32)  (σ : Mem) (H : Heap) (locs : List Loc) (ls : Array Slot), fX8_above_b56 n o0 x3 x4 x5 x6 x8 σ = some (r, σ') → MS D cy ad A s.heap z σ H locs → lv_has ls 11 [(0, va_rf (Option.map ad (some o0))), (3, .int x3), (4, va_rf (Option.map ad x4)), (5, va_rf (Option.map ad x5)), (6, .long x6), (8, .int x8)] → W p l e R s m args below meth c H locs 0 0 Q (F0 m 56 ls []) := by
  have hx := hC.1
  have hb := hC.2.1
  intro n
  induction n with
  | zero =>
    intro o0 x3 x4 x5 x6 x8 σ H locs ls h
    cases h
  | succ n ih =>
    intro o0 x3 x4 x5 x6 x8 σ H locs ls h hM hl
    rw [fX8_above_b56] at h
    refine lv_iload hx hb dX8_above_56 (lv_at hl 5 rfl) ?_
    refine lv_iconst (v := 4) hx hb dX8_above_58 (by decide) ?_
    refine lv_icmp_ge (tgt := 130) hx hb dX8_above_59 (by decide) (fun c1 => ?_) (fun c1 => ?_)
    · rw [if_pos c1] at h
      exact wX8_above_b130 hC hG hR Kr _ _ _ _ _ h hM (lv_sub hl [4] rfl)
    · rw [if_neg c1] at h
      refine lr_aload_n hx hb dX8_above_62 rfl (lv_at hl 0 rfl) ?_
      obtain ⟨t2, e_t2, h⟩ := bn h
      refine gf_X8_50 hC hG hM e_t2 dX8_above_63 ?_
      refine lv_iload hx hb dX8_above_66 (lv_at hl 5 rfl) ?_
      obtain ⟨t3, e_t3, h⟩ := bn h
      refine g_iald hx hb hG hM e_t3 dX8_above_68 ?_
      refine lv_if_le (tgt := 124) hx hb dX8_above_69 (by decide) (fun c4 => ?_) (fun c4 => ?_)
      · rw [if_pos c4] at h
        exact wX8_above_b124 hC hG hR Kr ih _ _ _ _ _ _ _ _ _ _ h hM (lv_sub hl [0, 1, 2, 3, 4, 5] rfl)
      · rw [if_neg c4] at h
        refine lr_aload hx hb dX8_above_72 (lv_at hl 2 rfl) ?_
        refine lv_iload hx hb dX8_above_74 (lv_at hl 5 rfl) ?_
        obtain ⟨k5, e_k5, h⟩ := bn h
        obtain ⟨t6, m7, e_m7, h⟩ := b2_elim h
        refine cs_X8_171 e_k5 hC hG hM (cX2_partFor_ok e_m7) ⟨by omega, by omega⟩ hl.1 (by first | exact Nat.le_of_ble_eq_true rfl | simp [va_cat, vcI, vcL, vcR]) dX8_above_76 (fun H locs hM => ?_)
        refine lr_astore (lv' := [(9, va_rf (Option.map ad t6)), (0, va_rf (Option.map ad (some o0))), (3, .int x3), (4, va_rf (Option.map ad x4)), (5, va_rf (Option.map ad x5)), (6, .long x6), (8, .int x8)]) hx hb dX8_above_79 hl (by decide) (by first | rfl | simp [va_cat]) (fun ls hl => ?_)
        refine lr_aload hx hb dX8_above_81 (lv_at hl 4 rfl) ?_
        refine lv_iload hx hb dX8_above_83 (lv_at hl 6 rfl) ?_
        obtain ⟨k8, e_k8, h⟩ := bn h
        obtain ⟨t9, m10, e_m10, h⟩ := b2_elim h
        refine cs_X8_171 e_k8 hC hG hM (cX2_partFor_ok e_m10) ⟨by omega, by omega⟩ hl.1 (by first | exact Nat.le_of_ble_eq_true rfl | simp [va_cat, vcI, vcL, vcR]) dX8_above_85 (fun H locs hM => ?_)
        refine lr_astore (lv' := [(10, va_rf (Option.map ad t9)), (9, va_rf (Option.map ad t6)), (0, va_rf (Option.map ad (some o0))), (3, .int x3), (4, va_rf (Option.map ad x4)), (5, va_rf (Option.map ad x5)), (6, .long x6), (8, .int x8)]) hx hb dX8_above_88 hl (by decide) (by first | rfl | simp [va_cat]) (fun ls hl => ?_)
        refine lr_aload hx hb dX8_above_90 (lv_at hl 1 rfl) ?_
        refine lr_ifnull (tgt := 100) hx hb dX8_above_92 (by decide) (fun c11 => ?_) (fun c11 => ?_)
        · rw [if_pos c11] at h
          exact wX8_above_b100 hC hG hR Kr ih _ _ _ _ h hM (lv_sub hl [] rfl)
        · rw [if_neg c11] at h
          refine lr_aload hx hb dX8_above_95 (lv_at hl 0 rfl) ?_
          refine lr_ifnonnull (tgt := 108) hx hb dX8_above_97 (by decide) (fun c12 => ?_) (fun c12 => ?_)
          · rw [if_neg c12] at h
            refine lv_lload hx hb dX8_above_108 (lv_at hl 6 rfl) ?_
            refine lr_aload_n hx hb dX8_above_110 rfl (lv_at hl 2 rfl) ?_
            refine lr_aload hx hb dX8_above_111 (lv_at hl 1 rfl) ?_
            refine lr_aload hx hb dX8_above_113 (lv_at hl 0 rfl) ?_
            refine lv_iload hx hb dX8_above_115 (lv_at hl 7 rfl) ?_
            refine lv_iload_n hx hb dX8_above_117 rfl (lv_at hl 3 rfl) ?_
            obtain ⟨k13, e_k13, h⟩ := bn h
            obtain ⟨t14, m15, e_m15, h⟩ := b2_elim h
            refine cs_X8_175 e_k13 hC hG hM (cX8_partAbove_ok e_m15) ⟨by omega, by omega⟩ hl.1 (by first | exact Nat.le_of_ble_eq_true rfl | simp [va_cat, vcI, vcL, vcR]) dX8_above_118 (fun H locs hM => ?_)
            refine lv_ladd hx hb dX8_above_121 ?_
            obtain ⟨t16, e_t16, h⟩ := bd_elim h
            refine lr_nml e_t16 ?_
            refine lv_lstore (lv' := [(6, .long t16), (10, va_rf (Option.map ad t9)), (9, va_rf (Option.map ad t6)), (0, va_rf (Option.map ad (some o0))), (3, .int x3), (4, va_rf (Option.map ad x4)), (5, va_rf (Option.map ad x5)), (8, .int x8)]) hx hb dX8_above_122 hl (by decide) (by first | rfl | simp [va_cat]) (fun ls hl => ?_)
            exact wX8_above_b124 hC hG hR Kr ih _ _ _ _ _ _ _ _ _ _ h hM (lv_sub hl [3, 4, 5, 6, 0, 7] rfl)
          · rw [if_pos c12] at h
            exact wX8_above_b100 hC hG hR Kr ih _ _ _ _ h hM (lv_sub hl [] rfl)
def fX8_above_b30    (σ : Mem) : Option (Option Int64 × Mem) :=
  some (none, σ)
set_option maxRecDepth 20000 in
theorem wX8_above_b30 {r : Option Int64} {σ' : Mem} (hC : CallFix p m c cX8_above 11 s args WALL RX8) (hG : GS D cy A s) (hR : 6 ≤ R.frames ∧ 216 ≤ R.locals) (Kr : KrXL p l e R s m args below meth c cX8_above 11 Q D cy ad A z r σ')    (σ : Mem) (H : Heap) (locs : List Loc) (ls : Array Slot) (h : fX8_above_b30  σ = some (r, σ')) (hM : MS D cy ad A s.heap z σ H locs) (hl : lv_has ls 11 []) : W p l e R s m args below meth c H locs 0 0 Q (F0 m 30 ls []) := by
  have hx := hC.1
  have hb := hC.2.1
  unfold fX8_above_b30 at h
  obtain ⟨rfl, rfl⟩ := Prod.mk.inj (Option.some.inj h)
  exact Kr.2 rfl _ _ _ _ dX8_above_30 dX8_above_33 dX8_above_34 dX8_above_37 hl.1 hM
def fX8_above (o0 : Nat) (x1 : Int32) (x2 : Int32) (x3 : Int32) (σ : Mem) : Option (Option Int64 × Mem) :=
  (fR σ 8 8 (some o0)).bind fun t1 =>
    (kT σ 3 t1).bind fun k2 =>
    b2 (fX3_at k2 x1 σ) fun t3 m4 =>
    (fR m4 8 8 (some o0)).bind fun t5 =>
    (kT m4 3 t5).bind fun k6 =>
    b2 (fX3_at k6 x2 m4) fun t7 m8 =>
    if t3 = none then fX8_above_b30 m8
    else if t7 = none then fX8_above_b30 m8
      else (fI m8 2 3 t3).bind fun t11 =>
        (fI m8 2 3 t7).bind fun t12 =>
        bd (((t11 : Int32).toInt64) - ((t12 : Int32).toInt64)) fun t13 =>
        fX8_above_b56 FU o0 x3 t3 t7 t13 0 m8
set_option maxRecDepth 20000 in
theorem wX8_above {r : Option Int64} {σ' : Mem} (hC : CallFix p m c cX8_above 11 s args WALL RX8) (hG : GS D cy A s) (hR : 6 ≤ R.frames ∧ 216 ≤ R.locals) (Kr : KrXL p l e R s m args below meth c cX8_above 11 Q D cy ad A z r σ') (o0 : Nat) (x1 : Int32) (x2 : Int32) (x3 : Int32) (σ : Mem) (H : Heap) (locs : List Loc) (ls : Array Slot) (h : fX8_above o0 x1 x2 x3 σ = some (r, σ')) (hM : MS D cy ad A s.heap z σ H locs) (hl : lv_has ls 11 [(0, va_rf (Option.map ad (some o0))), (1, .int x1), (2, .int x2), (3, .int x3)]) : W p l e R s m args below meth c H locs 0 0 Q (F0 m 0 ls []) := by
  have hx := hC.1
  have hb := hC.2.1
  unfold fX8_above at h
  refine lr_aload_n hx hb dX8_above_0 rfl (lv_at hl 0 rfl) ?_
  obtain ⟨t1, e_t1, h⟩ := bn h
  refine gf_X8_59 hC hG hM e_t1 dX8_above_1 ?_
  refine lv_iload_n hx hb dX8_above_4 rfl (lv_at hl 1 rfl) ?_
  obtain ⟨k2, e_k2, h⟩ := bn h
  obtain ⟨t3, m4, e_m4, h⟩ := b2_elim h
  refine cs_X8_94 e_k2 hC hG hM (cX3_at_ok e_m4) ⟨by omega, by omega⟩ hl.1 (by first | exact Nat.le_of_ble_eq_true rfl | simp [va_cat, vcI, vcL, vcR]) dX8_above_5 (fun H locs hM => ?_)
  refine lr_astore (lv' := [(4, va_rf (Option.map ad t3)), (0, va_rf (Option.map ad (some o0))), (1, .int x1), (2, .int x2), (3, .int x3)]) hx hb dX8_above_8 hl (by decide) (by first | rfl | simp [va_cat]) (fun ls hl => ?_)
  refine lr_aload_n hx hb dX8_above_10 rfl (lv_at hl 1 rfl) ?_
  obtain ⟨t5, e_t5, h⟩ := bn h
  refine gf_X8_59 hC hG hM e_t5 dX8_above_11 ?_
  refine lv_iload_n hx hb dX8_above_14 rfl (lv_at hl 3 rfl) ?_
  obtain ⟨k6, e_k6, h⟩ := bn h
  obtain ⟨t7, m8, e_m8, h⟩ := b2_elim h
  refine cs_X8_94 e_k6 hC hG hM (cX3_at_ok e_m8) ⟨by omega, by omega⟩ hl.1 (by first | exact Nat.le_of_ble_eq_true rfl | simp [va_cat, vcI, vcL, vcR]) dX8_above_15 (fun H locs hM => ?_)
  refine lr_astore (lv' := [(5, va_rf (Option.map ad t7)), (4, va_rf (Option.map ad t3)), (0, va_rf (Option.map ad (some o0))), (1, .int x1), (2, .int x2), (3, .int x3)]) hx hb dX8_above_18 hl (by decide) (by first | rfl | simp [va_cat]) (fun ls hl => ?_)
  refine lr_aload hx hb dX8_above_20 (lv_at hl 1 rfl) ?_
  refine lr_ifnull (tgt := 30) hx hb dX8_above_22 (by decide) (fun c9 => ?_) (fun c9 => ?_)
  · rw [if_pos c9] at h
    exact wX8_above_b30 hC hG hR Kr _ _ _ _ h hM (lv_sub hl [] rfl)
  · rw [if_neg c9] at h
    refine lr_aload hx hb dX8_above_25 (lv_at hl 0 rfl) ?_
    refine lr_ifnonnull (tgt := 38) hx hb dX8_above_27 (by decide) (fun c10 => ?_) (fun c10 => ?_)
    · rw [if_neg c10] at h
      refine lr_aload hx hb dX8_above_38 (lv_at hl 1 rfl) ?_
      obtain ⟨t11, e_t11, h⟩ := bn h
      refine gf_X8_101 hC hG hM e_t11 dX8_above_40 ?_
      refine lv_i2l hx hb dX8_above_43 rfl ?_
      refine lr_aload hx hb dX8_above_44 (lv_at hl 0 rfl) ?_
      obtain ⟨t12, e_t12, h⟩ := bn h
      refine gf_X8_101 hC hG hM e_t12 dX8_above_46 ?_
      refine lv_i2l hx hb dX8_above_49 rfl ?_
      refine lv_lsub hx hb dX8_above_50 ?_
      obtain ⟨t13, e_t13, h⟩ := bd_elim h
      refine lr_nml e_t13 ?_
      refine lv_lstore (lv' := [(6, .long t13), (5, va_rf (Option.map ad t7)), (4, va_rf (Option.map ad t3)), (0, va_rf (Option.map ad (some o0))), (1, .int x1), (2, .int x2), (3, .int x3)]) hx hb dX8_above_51 hl (by decide) (by first | rfl | simp [va_cat]) (fun ls hl => ?_)
      refine lv_iconst (v := 0) hx hb dX8_above_53 (by decide) ?_
      refine lv_istore (lv' := [(8, .int 0), (6, .long t13), (5, va_rf (Option.map ad t7)), (4, va_rf (Option.map ad t3)), (0, va_rf (Option.map ad (some o0))), (1, .int x1), (2, .int x2), (3, .int x3)]) hx hb dX8_above_54 hl (by decide) (by first | rfl | simp [va_cat]) (fun ls hl => ?_)
      exact wX8_above_b56 hC hG hR Kr FU _ _ _ _ _ _ _ _ _ _ h hM (lv_sub hl [4, 7, 3, 2, 1, 0] rfl)
    · rw [if_pos c10] at h
      exact wX8_above_b30 hC hG hR Kr _ _ _ _ h hM (lv_sub hl [] rfl)
theorem cX8_above_ok {l : Launch} {D : va_G} {cy : Nat → ClassId} {ad : Nat → Nat} {A : Nat → Prop} {z : Nat} {r : Option Int64} {σ' : Mem} {o0 : Nat} {x1 : Int32} {x2 : Int32} {x3 : Int32} {σ : Mem} (hls : l.stackTraces = false) (h : fX8_above o0 x1 x2 x3 σ = some (r, σ')) : CtXL l yX8_above cX8_above 11 (some .long) 6 [.ref (ad o0), .int x1, .int x2, .int x3] D cy ad A z σ r σ' :=
  enterXL hls (by decide) rfl (Nat.le_of_ble_eq_true rfl) (by decide) rfl (fun p e s m below meth c Q ls hC hG hM Kr hl => wX8_above hC hG ⟨Nat.le_refl _, Nat.le_refl _⟩ Kr _ _ _ _ _ _ _ _ h hM hl)
end WK
