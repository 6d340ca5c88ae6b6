def kof {α : Type} (r : Option α) : Int32 := match r with
  | none => 1
  | some _ => 0
def outI (r : Option Int32) (σ : Mem) : Mem := match r with
  | none => σ
  | some v => sJ σ 330 0 v.toInt64
def outL (r : Option Int64) (σ : Mem) : Mem := match r with
  | none => σ
  | some v => sJ σ 330 0 v
theorem wJ_out {σ : Mem} (v : Int64) (hk : kd σ 330 = 12) (hl : gL σ 330 = 1) : wJ σ 12 (some 330) 0 v = some (sJ σ 330 0 v) := by
  unfold wJ
  rw [Option.bind_some, if_pos hk, if_neg (by rw [hl]; decide)]
  rfl
theorem kT_of {σ : Mem} {k b : Nat} (h : kd σ b = k) : kT σ k (some b) = some b := by
  unfold kT
  rw [Option.bind_some, if_pos h]
abbrev CtH (l : Launch) (y : MethodName) (cb : ByteArray) (n : Nat) (hh : List (Nat × Nat × Nat × Nat)) (d : Nat) (av : List Value) (D : va_G) (cy : Nat → ClassId) (ad : Nat → Nat) (A : Nat → Prop) (z : Nat) (σ : Mem) (r : Int32) (σ' : Mem) : Prop :=
  Met l y (Cond.codeWith y cb n (some .int) hh :: WALL) (rmC d 1 6) (va_Pc av (PrX D cy ad A z σ)) (va_Qi (fun (r0 : Int32) (τ : Mem) => r0 = r ∧ τ = σ') (PoX D cy ad A) A) 1 6 A
theorem met_ofWH {l : Launch} {y : MethodName} {ws ws' : List Cond} {rm : Room} {Pc : Array Value → State → Prop} {Qc : Array Value → State → Outcome → State → Prop} {mc ms : Nat} {free : Addr → Prop} {cc : ByteArray} {maxL : Nat} {ret : Option FieldType} {hh : List (Nat × Nat × Nat × Nat)}
    (hy : plainName y.cls = true) (hw : ws = Cond.codeWith y cc maxL ret hh :: ws')
    (body : ∀ p e s m args below meth c s₁, BodyLoose p l y (headSpec ws rm) cc maxL ret e s m args below meth c s₁ → c.maxLocals = maxL → Pc args s →
      W p l e (headSpec ws rm).room s m args below meth c s.heap [] 0 0 (MQ below Qc args s mc ms free) (entryFrame m args maxL)) : Met l y ws rm Pc Qc mc ms free := by
  refine MetFree.of_bodyS (code := cc) (maxLocals := maxL) (ret := ret) hy ?_ ?_
  · intro args s m h hn
    obtain ⟨m9, meth, c, hn9, h1, h2, h3, h4, -, h5, h6, -⟩ := Cond.codeWith_spec (atoms_spec (ws := ws) h _ (by rw [hw]; exact List.mem_cons_self))
    cases hn.symm.trans hn9
    exact ⟨meth, c, h1, h2, h3, h4, h5, h6⟩
  · intro p e s m args below meth c s₁ B hml hP _
    have hh0 : s₁.heap = s.heap := by rw [B.state]; rfl
    obtain ⟨t, a1, o, b1, b2, b3⟩ := body p e s m args below meth c s₁ B hml hP s₁ hh0 (Stand.of_body B)
    exact ⟨t, o, a1, b1, b2, ⟨b3.1, b3.2⟩⟩
theorem wcl_nseL : Cond.classLink RL 13 nse ∈ WALL := WALL_of (by decide +kernel) (by decide +kernel)
theorem cast_nse : Cond.castable nse nse ∈ XWL := by decide +kernel
theorem wn_X8' : Cond.initialized RX8 ∈ WALL := WALL_of (by decide +kernel) (by decide +kernel)
theorem wch_plan : Cond.code yX8_plan cX8_plan 4 (some .int) ∈ WALL := WALL_of (List.mem_of_getElem? (i := 658) (by decide +kernel)) (by decide +kernel)
theorem wih_plan : Cond.instanceMethod yX8_plan ∈ WALL := WALL_of (List.mem_of_getElem? (i := 656) (by decide +kernel)) (by decide +kernel)
theorem wsh_plan : Cond.selects RX8 yX8_plan yX8_plan ∈ WALL := WALL_of (by decide +kernel) (by decide +kernel)
theorem mlh_plan : Cond.methodLink RL 7 yX8_plan ∈ WALL := WALL_of (List.mem_of_getElem? (i := 655) (by decide +kernel)) (by decide +kernel)
theorem hdh_plan : yX8_plan.cls ≠ "java/lang/invoke/MethodHandle" ∧ yX8_plan.cls ≠ "java/lang/invoke/VarHandle" ∧ (parseMethodDescriptor yX8_plan.desc).map (fun d => d.parameters.length) = some 2 := by decide +kernel
set_option maxRecDepth 20000 in
theorem cL_plan_ok {l : Launch} {D : va_G} {cy : Nat → ClassId} {ad : Nat → Nat} {A : Nat → Prop} {z : Nat} {a0 : Int32} {a1 : Int32} {r : Option Int32} {σ σ1 : Mem} (hls : l.stackTraces = false) (h0 : kd σ 0 = 8) (h : fX8_plan 0 a0 a1 σ = some (r, σ1)) (ho : kd σ1 330 = 12) (hl1 : gL σ1 330 = 1) : CtH l yL_plan cL_plan 5 [(0, 10, 13, 13)] 7 [.ref (ad 0), .int a0, .int a1, .ref (ad 330)] D cy ad A z σ (kof r) (outI r σ1) := by
  refine met_ofWH (cc := cL_plan) (maxL := 5) (ret := some .int) (by decide) rfl ?_
  intro p e s m args below meth c s₁ B hml hv
  obtain ⟨rfl, hP, hD, hz, hG⟩ := hv
  have hx := B.exec
  have hb := B.bytes
  have hr := B.returns
  have hts := atoms_spec (ws := Cond.codeWith yL_plan cL_plan 5 (some .int) [(0, 10, 13, 13)] :: WALL) B.pre
  have htab : c.exceptionTable.toList = [⟨0, 10, 13, 13⟩] := vx_table (x := yL_plan) B (hts _ List.mem_cons_self)
  have hown : s.vm.findClass RL = some m.cls := findClass_of_methodNamed B.named
  have hlocks := B.notSynchronized
  have hC : CallFix p m c cL_plan 5 s [.ref (ad 0), .int a0, .int a1, .ref (ad 330)].toArray WALL RL := ⟨hx, hb, hml, hown, fun w hw => hts w (List.mem_cons_of_mem _ hw)⟩
  have hM : MS D cy ad A s.heap z σ s.heap [] := ⟨hP, hD, va_S.rf, hz⟩
  have hl := lv_entry [.ref (ad 0), .int a0, .int a1, .ref (ad 330)] (n := 5) (Nat.le_of_ble_eq_true rfl)
  rw [lg_entry_eq]
  generalize (lg_sl [.ref (ad 0), .int a0, .int a1, .ref (ad 330)] ++ List.replicate (5 - (lg_sl [.ref (ad 0), .int a0, .int a1, .ref (ad 330)]).length) Slot.unset).toArray = ls at hl ⊢
  have hl : lv_has ls 5 [(0, .ref (ad 0)), (1, .int a0), (2, .int a1), (3, .ref (ad 330))] := hl
  refine lv_aload_n hx hb dL_plan_0 rfl (lv_at hl 3 rfl) ?_
  refine lv_iconst (v := 0) hx hb dL_plan_1 (by decide) ?_
  refine lv_aload_n hx hb dL_plan_2 rfl (lv_at hl 0 rfl) ?_
  refine lv_iload_n hx hb dL_plan_3 rfl (lv_at hl 1 rfl) ?_
  refine lv_iload_n hx hb dL_plan_4 rfl (lv_at hl 2 rfl) ?_
  refine vx_calli (vx_runV (As := [.int a0, .int a1]) (rest := [.int 0, .ref (ad 330)]) hC (cX8_plan_ok hls h) (cwV 2 hC.2.2.2.2 (WALL_cons mlh_plan (WALL_cons wih_plan (WALL_cons wsh_plan (WALL_cons wn_X8' (WALL_code wch_plan))))) rfl rfl rfl ⟨rfl, hdh_plan⟩ ⟨by decide, by decide⟩) ⟨PrX.blind, va_recv hG.1.1 hM.1 (ci := 8) (q0 := 0) rfl (by rw [MM_get cy ad (kd_lt h0 (by decide)).1, cellOf_obj cy ad (kd_lt h0 (by decide)).2 (by decide)]), fun U hU hW => ⟨rfl, hM.preX hG U hU hW⟩⟩ rfl rfl hl.1 rfl (lv_room (Nat.le_of_ble_eq_true rfl)) dL_plan_5 ⟨by decide, by decide⟩) hM.2.2.1 (fun q _ h => h) (fun q h => h) (fun q _ h => h) (fun E ce q9 u t H1 locs1 ht hvm hw hB hz1 hk1 hS hq9 hcv hcl => ?_) (fun r0 u t H1 locs1 ht hvm hw hB hz1 hk1 hS => ?_)
  · obtain ⟨rfl, rfl⟩ := hw
    obtain ⟨rfl, hP1, hD1⟩ := hB
    rw [ht] at hP1
    refine vx_catch (own := RL) (name := nse) hC.2.2.2.1 [] ⟨0, 10, 13, 13⟩ [] htab (fun z hz => nomatch hz) (by decide) (by decide) (hC.2.2.2.2 _ wcl_nseL) (hG.2.1.use _ cast_nse) hq9 hcv hcl ?_
    refine lv_astore (lv' := [(4, .ref q9), (0, .ref (ad 0)), (1, .int a0), (2, .int a1), (3, .ref (ad 330))]) hx hb dL_plan_13 hl (by decide) (by first | rfl | simp [va_cat, vcI, vcL, vcR]) (fun ls hl => ?_)
    refine lv_iconst (v := 1) hx hb dL_plan_15 (by decide) ?_
    exact W.iret (v := 1) hx hb hr (fun t ht hW => ⟨⟨1, _, rfl, ⟨rfl, rfl⟩, by rw [ht]; exact hP1, hD1⟩, hS.F ht⟩) hS.2.2 dL_plan_16 hlocks
  · obtain ⟨rfl, rfl⟩ := hw
    have hM : MS D cy ad A s.heap z u H1 locs1 := MS.post hB ht hS
    refine lv_i2l hx hb dL_plan_8 rfl ?_
    refine g_last (v := some 330) hx hb hG.1 hM (wJ_out (r0.toInt64) ho hl1) dL_plan_9 (fun H locs hM => ?_)
    refine lv_goto (tgt := 17) hx hb dL_plan_10 (by decide) ?_
    refine lv_iconst (v := 0) hx hb dL_plan_17 (by decide) ?_
    exact W.iret (v := 0) hx hb hr (fun t ht hW => ⟨⟨0, _, rfl, ⟨rfl, rfl⟩, by rw [ht]; exact hM.1, hM.2.1⟩, hM.2.2.1.F ht⟩) hM.2.2.1.2.2 dL_plan_18 hlocks
theorem wch_octet : Cond.code yX8_octet cX8_octet 2 (some .int) ∈ WALL := WALL_of (List.mem_of_getElem? (i := 726) (by decide +kernel)) (by decide +kernel)
theorem wih_octet : Cond.instanceMethod yX8_octet ∈ WALL := WALL_of (List.mem_of_getElem? (i := 724) (by decide +kernel)) (by decide +kernel)
theorem wsh_octet : Cond.selects RX8 yX8_octet yX8_octet ∈ WALL := WALL_of (by decide +kernel) (by decide +kernel)
theorem mlh_octet : Cond.methodLink RL 15 yX8_octet ∈ WALL := WALL_of (List.mem_of_getElem? (i := 723) (by decide +kernel)) (by decide +kernel)
theorem hdh_octet : yX8_octet.cls ≠ "java/lang/invoke/MethodHandle" ∧ yX8_octet.cls ≠ "java/lang/invoke/VarHandle" ∧ (parseMethodDescriptor yX8_octet.desc).map (fun d => d.parameters.length) = some 1 := by decide +kernel
set_option maxRecDepth 20000 in
theorem cL_octet_ok {l : Launch} {D : va_G} {cy : Nat → ClassId} {ad : Nat → Nat} {A : Nat → Prop} {z : Nat} {a0 : Int32} {r : Option Int32} {σ σ1 : Mem} (hls : l.stackTraces = false) (h0 : kd σ 0 = 8) (h : fX8_octet 0 a0 σ = some (r, σ1)) (ho : kd σ1 330 = 12) (hl1 : gL σ1 330 = 1) : CtH l yL_octet cL_octet 4 [(0, 9, 12, 13)] 7 [.ref (ad 0), .int a0, .ref (ad 330)] D cy ad A z σ (kof r) (outI r σ1) := by
  refine met_ofWH (cc := cL_octet) (maxL := 4) (ret := some .int) (by decide) rfl ?_
  intro p e s m args below meth c s₁ B hml hv
  obtain ⟨rfl, hP, hD, hz, hG⟩ := hv
  have hx := B.exec
  have hb := B.bytes
  have hr := B.returns
  have hts := atoms_spec (ws := Cond.codeWith yL_octet cL_octet 4 (some .int) [(0, 9, 12, 13)] :: WALL) B.pre
  have htab : c.exceptionTable.toList = [⟨0, 9, 12, 13⟩] := vx_table (x := yL_octet) B (hts _ List.mem_cons_self)
  have hown : s.vm.findClass RL = some m.cls := findClass_of_methodNamed B.named
  have hlocks := B.notSynchronized
  have hC : CallFix p m c cL_octet 4 s [.ref (ad 0), .int a0, .ref (ad 330)].toArray WALL RL := ⟨hx, hb, hml, hown, fun w hw => hts w (List.mem_cons_of_mem _ hw)⟩
  have hM : MS D cy ad A s.heap z σ s.heap [] := ⟨hP, hD, va_S.rf, hz⟩
  have hl := lv_entry [.ref (ad 0), .int a0, .ref (ad 330)] (n := 4) (Nat.le_of_ble_eq_true rfl)
  rw [lg_entry_eq]
  generalize (lg_sl [.ref (ad 0), .int a0, .ref (ad 330)] ++ List.replicate (4 - (lg_sl [.ref (ad 0), .int a0, .ref (ad 330)]).length) Slot.unset).toArray = ls at hl ⊢
  have hl : lv_has ls 4 [(0, .ref (ad 0)), (1, .int a0), (2, .ref (ad 330))] := hl
  refine lv_aload_n hx hb dL_octet_0 rfl (lv_at hl 2 rfl) ?_
  refine lv_iconst (v := 0) hx hb dL_octet_1 (by decide) ?_
  refine lv_aload_n hx hb dL_octet_2 rfl (lv_at hl 0 rfl) ?_
  refine lv_iload_n hx hb dL_octet_3 rfl (lv_at hl 1 rfl) ?_
  refine vx_calli (vx_runV (As := [.int a0]) (rest := [.int 0, .ref (ad 330)]) hC (cX8_octet_ok hls h) (cwV 1 hC.2.2.2.2 (WALL_cons mlh_octet (WALL_cons wih_octet (WALL_cons wsh_octet (WALL_cons wn_X8' (WALL_code wch_octet))))) rfl rfl rfl ⟨rfl, hdh_octet⟩ ⟨by decide, by decide⟩) ⟨PrX.blind, va_recv hG.1.1 hM.1 (ci := 8) (q0 := 0) rfl (by rw [MM_get cy ad (kd_lt h0 (by decide)).1, cellOf_obj cy ad (kd_lt h0 (by decide)).2 (by decide)]), fun U hU hW => ⟨rfl, hM.preX hG U hU hW⟩⟩ rfl rfl hl.1 rfl (lv_room (Nat.le_of_ble_eq_true rfl)) dL_octet_4 ⟨by decide, by decide⟩) hM.2.2.1 (fun q _ h => h) (fun q h => h) (fun q _ h => h) (fun E ce q9 u t H1 locs1 ht hvm hw hB hz1 hk1 hS hq9 hcv hcl => ?_) (fun r0 u t H1 locs1 ht hvm hw hB hz1 hk1 hS => ?_)
  · obtain ⟨rfl, rfl⟩ := hw
    obtain ⟨rfl, hP1, hD1⟩ := hB
    rw [ht] at hP1
    refine vx_catch (own := RL) (name := nse) hC.2.2.2.1 [] ⟨0, 9, 12, 13⟩ [] htab (fun z hz => nomatch hz) (by decide) (by decide) (hC.2.2.2.2 _ wcl_nseL) (hG.2.1.use _ cast_nse) hq9 hcv hcl ?_
    refine lv_astore_n (lv' := [(3, .ref q9), (0, .ref (ad 0)), (1, .int a0), (2, .ref (ad 330))]) hx hb dL_octet_12 rfl hl (by decide) (by first | rfl | simp [va_cat, vcI, vcL, vcR]) (fun ls hl => ?_)
    refine lv_iconst (v := 1) hx hb dL_octet_13 (by decide) ?_
    exact W.iret (v := 1) hx hb hr (fun t ht hW => ⟨⟨1, _, rfl, ⟨rfl, rfl⟩, by rw [ht]; exact hP1, hD1⟩, hS.F ht⟩) hS.2.2 dL_octet_14 hlocks
  · obtain ⟨rfl, rfl⟩ := hw
    have hM : MS D cy ad A s.heap z u H1 locs1 := MS.post hB ht hS
    refine lv_i2l hx hb dL_octet_7 rfl ?_
    refine g_last (v := some 330) hx hb hG.1 hM (wJ_out (r0.toInt64) ho hl1) dL_octet_8 (fun H locs hM => ?_)
    refine lv_goto (tgt := 15) hx hb dL_octet_9 (by decide) ?_
    refine lv_iconst (v := 0) hx hb dL_octet_15 (by decide) ?_
    exact W.iret (v := 0) hx hb hr (fun t ht hW => ⟨⟨0, _, rfl, ⟨rfl, rfl⟩, by rw [ht]; exact hM.1, hM.2.1⟩, hM.2.2.1.F ht⟩) hM.2.2.1.2.2 dL_octet_16 hlocks
theorem wch_cost : Cond.code yX8_cost cX8_cost 7 (some .long) ∈ WALL := WALL_of (List.mem_of_getElem? (i := 733) (by decide +kernel)) (by decide +kernel)
theorem wih_cost : Cond.instanceMethod yX8_cost ∈ WALL := WALL_of (List.mem_of_getElem? (i := 731) (by decide +kernel)) (by decide +kernel)
theorem wsh_cost : Cond.selects RX8 yX8_cost yX8_cost ∈ WALL := WALL_of (by decide +kernel) (by decide +kernel)
theorem mlh_cost : Cond.methodLink RL 19 yX8_cost ∈ WALL := WALL_of (List.mem_of_getElem? (i := 730) (by decide +kernel)) (by decide +kernel)
theorem hdh_cost : yX8_cost.cls ≠ "java/lang/invoke/MethodHandle" ∧ yX8_cost.cls ≠ "java/lang/invoke/VarHandle" ∧ (parseMethodDescriptor yX8_cost.desc).map (fun d => d.parameters.length) = some 4 := by decide +kernel
set_option maxRecDepth 20000 in
theorem cL_cost_ok {l : Launch} {D : va_G} {cy : Nat → ClassId} {ad : Nat → Nat} {A : Nat → Prop} {z : Nat} {a0 : Int32} {a1 : Int32} {a2 : Int32} {a3 : Int32} {r : Option Int64} {σ σ1 : Mem} (hls : l.stackTraces = false) (h0 : kd σ 0 = 8) (h : fX8_cost 0 a0 a1 a2 a3 σ = some (r, σ1)) (ho : kd σ1 330 = 12) (hl1 : gL σ1 330 = 1) : CtH l yL_cost cL_cost 7 [(0, 13, 16, 13)] 7 [.ref (ad 0), .int a0, .int a1, .int a2, .int a3, .ref (ad 330)] D cy ad A z σ (kof r) (outL r σ1) := by
  refine met_ofWH (cc := cL_cost) (maxL := 7) (ret := some .int) (by decide) rfl ?_
  intro p e s m args below meth c s₁ B hml hv
  obtain ⟨rfl, hP, hD, hz, hG⟩ := hv
  have hx := B.exec
  have hb := B.bytes
  have hr := B.returns
  have hts := atoms_spec (ws := Cond.codeWith yL_cost cL_cost 7 (some .int) [(0, 13, 16, 13)] :: WALL) B.pre
  have htab : c.exceptionTable.toList = [⟨0, 13, 16, 13⟩] := vx_table (x := yL_cost) B (hts _ List.mem_cons_self)
  have hown : s.vm.findClass RL = some m.cls := findClass_of_methodNamed B.named
  have hlocks := B.notSynchronized
  have hC : CallFix p m c cL_cost 7 s [.ref (ad 0), .int a0, .int a1, .int a2, .int a3, .ref (ad 330)].toArray WALL RL := ⟨hx, hb, hml, hown, fun w hw => hts w (List.mem_cons_of_mem _ hw)⟩
  have hM : MS D cy ad A s.heap z σ s.heap [] := ⟨hP, hD, va_S.rf, hz⟩
  have hl := lv_entry [.ref (ad 0), .int a0, .int a1, .int a2, .int a3, .ref (ad 330)] (n := 7) (Nat.le_of_ble_eq_true rfl)
  rw [lg_entry_eq]
  generalize (lg_sl [.ref (ad 0), .int a0, .int a1, .int a2, .int a3, .ref (ad 330)] ++ List.replicate (7 - (lg_sl [.ref (ad 0), .int a0, .int a1, .int a2, .int a3, .ref (ad 330)]).length) Slot.unset).toArray = ls at hl ⊢
  have hl : lv_has ls 7 [(0, .ref (ad 0)), (1, .int a0), (2, .int a1), (3, .int a2), (4, .int a3), (5, .ref (ad 330))] := hl
  refine lv_aload hx hb dL_cost_0 (lv_at hl 5 rfl) ?_
  refine lv_iconst (v := 0) hx hb dL_cost_2 (by decide) ?_
  refine lv_aload_n hx hb dL_cost_3 rfl (lv_at hl 0 rfl) ?_
  refine lv_iload_n hx hb dL_cost_4 rfl (lv_at hl 1 rfl) ?_
  refine lv_iload_n hx hb dL_cost_5 rfl (lv_at hl 2 rfl) ?_
  refine lv_iload_n hx hb dL_cost_6 rfl (lv_at hl 3 rfl) ?_
  refine lv_iload hx hb dL_cost_7 (lv_at hl 4 rfl) ?_
  refine vx_calll (vx_runV (As := [.int a0, .int a1, .int a2, .int a3]) (rest := [.int 0, .ref (ad 330)]) hC (cX8_cost_ok hls h) (cwV 4 hC.2.2.2.2 (WALL_cons mlh_cost (WALL_cons wih_cost (WALL_cons wsh_cost (WALL_cons wn_X8' (WALL_code wch_cost))))) rfl rfl rfl ⟨rfl, hdh_cost⟩ ⟨by decide, by decide⟩) ⟨PrX.blind, va_recv hG.1.1 hM.1 (ci := 8) (q0 := 0) rfl (by rw [MM_get cy ad (kd_lt h0 (by decide)).1, cellOf_obj cy ad (kd_lt h0 (by decide)).2 (by decide)]), fun U hU hW => ⟨rfl, hM.preX hG U hU hW⟩⟩ rfl rfl hl.1 rfl (lv_room (Nat.le_of_ble_eq_true rfl)) dL_cost_9 ⟨by decide, by decide⟩) hM.2.2.1 (fun q _ h => h) (fun q h => h) (fun q _ h => h) (fun E ce q9 u t H1 locs1 ht hvm hw hB hz1 hk1 hS hq9 hcv hcl => ?_) (fun r0 u t H1 locs1 ht hvm hw hB hz1 hk1 hS => ?_)
  · obtain ⟨rfl, rfl⟩ := hw
    obtain ⟨rfl, hP1, hD1⟩ := hB
    rw [ht] at hP1
    refine vx_catch (own := RL) (name := nse) hC.2.2.2.1 [] ⟨0, 13, 16, 13⟩ [] htab (fun z hz => nomatch hz) (by decide) (by decide) (hC.2.2.2.2 _ wcl_nseL) (hG.2.1.use _ cast_nse) hq9 hcv hcl ?_
    refine lv_astore (lv' := [(6, .ref q9), (0, .ref (ad 0)), (1, .int a0), (2, .int a1), (3, .int a2), (4, .int a3), (5, .ref (ad 330))]) hx hb dL_cost_16 hl (by decide) (by first | rfl | simp [va_cat, vcI, vcL, vcR]) (fun ls hl => ?_)
    refine lv_iconst (v := 1) hx hb dL_cost_18 (by decide) ?_
    exact W.iret (v := 1) hx hb hr (fun t ht hW => ⟨⟨1, _, rfl, ⟨rfl, rfl⟩, by rw [ht]; exact hP1, hD1⟩, hS.F ht⟩) hS.2.2 dL_cost_19 hlocks
  · obtain ⟨rfl, rfl⟩ := hw
    have hM : MS D cy ad A s.heap z u H1 locs1 := MS.post hB ht hS
    refine g_last (v := some 330) hx hb hG.1 hM (wJ_out (r0) ho hl1) dL_cost_12 (fun H locs hM => ?_)
    refine lv_goto (tgt := 20) hx hb dL_cost_13 (by decide) ?_
    refine lv_iconst (v := 0) hx hb dL_cost_20 (by decide) ?_
    exact W.iret (v := 0) hx hb hr (fun t ht hW => ⟨⟨0, _, rfl, ⟨rfl, rfl⟩, by rw [ht]; exact hM.1, hM.2.1⟩, hM.2.2.1.F ht⟩) hM.2.2.1.2.2 dL_cost_21 hlocks
theorem wch_bill : Cond.code yX8_bill cX8_bill 8 (some .long) ∈ WALL := WALL_of (List.mem_of_getElem? (i := 747) (by decide +kernel)) (by decide +kernel)
theorem wih_bill : Cond.instanceMethod yX8_bill ∈ WALL := WALL_of (List.mem_of_getElem? (i := 745) (by decide +kernel)) (by decide +kernel)
theorem wsh_bill : Cond.selects RX8 yX8_bill yX8_bill ∈ WALL := WALL_of (by decide +kernel) (by decide +kernel)
theorem mlh_bill : Cond.methodLink RL 23 yX8_bill ∈ WALL := WALL_of (List.mem_of_getElem? (i := 744) (by decide +kernel)) (by decide +kernel)
theorem hdh_bill : yX8_bill.cls ≠ "java/lang/invoke/MethodHandle" ∧ yX8_bill.cls ≠ "java/lang/invoke/VarHandle" ∧ (parseMethodDescriptor yX8_bill.desc).map (fun d => d.parameters.length) = some 4 := by decide +kernel
set_option maxRecDepth 20000 in
theorem cL_bill_ok {l : Launch} {D : va_G} {cy : Nat → ClassId} {ad : Nat → Nat} {A : Nat → Prop} {z : Nat} {a0 : Int32} {a1 : Int32} {a2 : Int32} {a3 : Int64} {r : Option Int64} {σ σ1 : Mem} (hls : l.stackTraces = false) (h0 : kd σ 0 = 8) (h : fX8_bill 0 a0 a1 a2 a3 σ = some (r, σ1)) (ho : kd σ1 330 = 12) (hl1 : gL σ1 330 = 1) : CtH l yL_bill cL_bill 8 [(0, 13, 16, 13)] 7 [.ref (ad 0), .int a0, .int a1, .int a2, .long a3, .ref (ad 330)] D cy ad A z σ (kof r) (outL r σ1) := by
  refine met_ofWH (cc := cL_bill) (maxL := 8) (ret := some .int) (by decide) rfl ?_
  intro p e s m args below meth c s₁ B hml hv
  obtain ⟨rfl, hP, hD, hz, hG⟩ := hv
  have hx := B.exec
  have hb := B.bytes
  have hr := B.returns
  have hts := atoms_spec (ws := Cond.codeWith yL_bill cL_bill 8 (some .int) [(0, 13, 16, 13)] :: WALL) B.pre
  have htab : c.exceptionTable.toList = [⟨0, 13, 16, 13⟩] := vx_table (x := yL_bill) B (hts _ List.mem_cons_self)
  have hown : s.vm.findClass RL = some m.cls := findClass_of_methodNamed B.named
  have hlocks := B.notSynchronized
  have hC : CallFix p m c cL_bill 8 s [.ref (ad 0), .int a0, .int a1, .int a2, .long a3, .ref (ad 330)].toArray WALL RL := ⟨hx, hb, hml, hown, fun w hw => hts w (List.mem_cons_of_mem _ hw)⟩
  have hM : MS D cy ad A s.heap z σ s.heap [] := ⟨hP, hD, va_S.rf, hz⟩
  have hl := lv_entry [.ref (ad 0), .int a0, .int a1, .int a2, .long a3, .ref (ad 330)] (n := 8) (Nat.le_of_ble_eq_true rfl)
  rw [lg_entry_eq]
  generalize (lg_sl [.ref (ad 0), .int a0, .int a1, .int a2, .long a3, .ref (ad 330)] ++ List.replicate (8 - (lg_sl [.ref (ad 0), .int a0, .int a1, .int a2, .long a3, .ref (ad 330)]).length) Slot.unset).toArray = ls at hl ⊢
  have hl : lv_has ls 8 [(0, .ref (ad 0)), (1, .int a0), (2, .int a1), (3, .int a2), (4, .long a3), (6, .ref (ad 330))] := hl
  refine lv_aload hx hb dL_bill_0 (lv_at hl 5 rfl) ?_
  refine lv_iconst (v := 0) hx hb dL_bill_2 (by decide) ?_
  refine lv_aload_n hx hb dL_bill_3 rfl (lv_at hl 0 rfl) ?_
  refine lv_iload_n hx hb dL_bill_4 rfl (lv_at hl 1 rfl) ?_
  refine lv_iload_n hx hb dL_bill_5 rfl (lv_at hl 2 rfl) ?_
  refine lv_iload_n hx hb dL_bill_6 rfl (lv_at hl 3 rfl) ?_
  refine lv_lload hx hb dL_bill_7 (lv_at hl 4 rfl) ?_
  refine vx_calll (vx_runV (As := [.int a0, .int a1, .int a2, .long a3]) (rest := [.int 0, .ref (ad 330)]) hC (cX8_bill_ok hls h) (cwV 4 hC.2.2.2.2 (WALL_cons mlh_bill (WALL_cons wih_bill (WALL_cons wsh_bill (WALL_cons wn_X8' (WALL_code wch_bill))))) rfl rfl rfl ⟨rfl, hdh_bill⟩ ⟨by decide, by decide⟩) ⟨PrX.blind, va_recv hG.1.1 hM.1 (ci := 8) (q0 := 0) rfl (by rw [MM_get cy ad (kd_lt h0 (by decide)).1, cellOf_obj cy ad (kd_lt h0 (by decide)).2 (by decide)]), fun U hU hW => ⟨rfl, hM.preX hG U hU hW⟩⟩ rfl rfl hl.1 rfl (lv_room (Nat.le_of_ble_eq_true rfl)) dL_bill_9 ⟨by decide, by decide⟩) hM.2.2.1 (fun q _ h => h) (fun q h => h) (fun q _ h => h) (fun E ce q9 u t H1 locs1 ht hvm hw hB hz1 hk1 hS hq9 hcv hcl => ?_) (fun r0 u t H1 locs1 ht hvm hw hB hz1 hk1 hS => ?_)
  · obtain ⟨rfl, rfl⟩ := hw
    obtain ⟨rfl, hP1, hD1⟩ := hB
    rw [ht] at hP1
    refine vx_catch (own := RL) (name := nse) hC.2.2.2.1 [] ⟨0, 13, 16, 13⟩ [] htab (fun z hz => nomatch hz) (by decide) (by decide) (hC.2.2.2.2 _ wcl_nseL) (hG.2.1.use _ cast_nse) hq9 hcv hcl ?_
    refine lv_astore (lv' := [(7, .ref q9), (0, .ref (ad 0)), (1, .int a0), (2, .int a1), (3, .int a2), (4, .long a3), (6, .ref (ad 330))]) hx hb dL_bill_16 hl (by decide) (by first | rfl | simp [va_cat, vcI, vcL, vcR]) (fun ls hl => ?_)
    refine lv_iconst (v := 1) hx hb dL_bill_18 (by decide) ?_
    exact W.iret (v := 1) hx hb hr (fun t ht hW => ⟨⟨1, _, rfl, ⟨rfl, rfl⟩, by rw [ht]; exact hP1, hD1⟩, hS.F ht⟩) hS.2.2 dL_bill_19 hlocks
  · obtain ⟨rfl, rfl⟩ := hw
    have hM : MS D cy ad A s.heap z u H1 locs1 := MS.post hB ht hS
    refine g_last (v := some 330) hx hb hG.1 hM (wJ_out (r0) ho hl1) dL_bill_12 (fun H locs hM => ?_)
    refine lv_goto (tgt := 20) hx hb dL_bill_13 (by decide) ?_
    refine lv_iconst (v := 0) hx hb dL_bill_20 (by decide) ?_
    exact W.iret (v := 0) hx hb hr (fun t ht hW => ⟨⟨0, _, rfl, ⟨rfl, rfl⟩, by rw [ht]; exact hM.1, hM.2.1⟩, hM.2.2.1.F ht⟩) hM.2.2.1.2.2 dL_bill_21 hlocks
theorem wch_above : Cond.code yX8_above cX8_above 11 (some .long) ∈ WALL := WALL_of (List.mem_of_getElem? (i := 754) (by decide +kernel)) (by decide +kernel)
theorem wih_above : Cond.instanceMethod yX8_above ∈ WALL := WALL_of (List.mem_of_getElem? (i := 752) (by decide +kernel)) (by decide +kernel)
theorem wsh_above : Cond.selects RX8 yX8_above yX8_above ∈ WALL := WALL_of (by decide +kernel) (by decide +kernel)
theorem mlh_above : Cond.methodLink RL 27 yX8_above ∈ WALL := WALL_of (List.mem_of_getElem? (i := 751) (by decide +kernel)) (by decide +kernel)
theorem hdh_above : yX8_above.cls ≠ "java/lang/invoke/MethodHandle" ∧ yX8_above.cls ≠ "java/lang/invoke/VarHandle" ∧ (parseMethodDescriptor yX8_above.desc).map (fun d => d.parameters.length) = some 3 := by decide +kernel
set_option maxRecDepth 20000 in
theorem cL_above_ok {l : Launch} {D : va_G} {cy : Nat → ClassId} {ad : Nat → Nat} {A : Nat → Prop} {z : Nat} {a0 : Int32} {a1 : Int32} {a2 : Int32} {r : Option Int64} {σ σ1 : Mem} (hls : l.stackTraces = false) (h0 : kd σ 0 = 8) (h : fX8_above 0 a0 a1 a2 σ = some (r, σ1)) (ho : kd σ1 330 = 12) (hl1 : gL σ1 330 = 1) : CtH l yL_above cL_above 6 [(0, 11, 14, 13)] 7 [.ref (ad 0), .int a0, .int a1, .int a2, .ref (ad 330)] D cy ad A z σ (kof r) (outL r σ1) := by
  refine met_ofWH (cc := cL_above) (maxL := 6) (ret := some .int) (by decide) rfl ?_
  intro p e s m args below meth c s₁ B hml hv
  obtain ⟨rfl, hP, hD, hz, hG⟩ := hv
  have hx := B.exec
  have hb := B.bytes
  have hr := B.returns
  have hts := atoms_spec (ws := Cond.codeWith yL_above cL_above 6 (some .int) [(0, 11, 14, 13)] :: WALL) B.pre
  have htab : c.exceptionTable.toList = [⟨0, 11, 14, 13⟩] := vx_table (x := yL_above) B (hts _ List.mem_cons_self)
  have hown : s.vm.findClass RL = some m.cls := findClass_of_methodNamed B.named
  have hlocks := B.notSynchronized
  have hC : CallFix p m c cL_above 6 s [.ref (ad 0), .int a0, .int a1, .int a2, .ref (ad 330)].toArray WALL RL := ⟨hx, hb, hml, hown, fun w hw => hts w (List.mem_cons_of_mem _ hw)⟩
  have hM : MS D cy ad A s.heap z σ s.heap [] := ⟨hP, hD, va_S.rf, hz⟩
  have hl := lv_entry [.ref (ad 0), .int a0, .int a1, .int a2, .ref (ad 330)] (n := 6) (Nat.le_of_ble_eq_true rfl)
  rw [lg_entry_eq]
  generalize (lg_sl [.ref (ad 0), .int a0, .int a1, .int a2, .ref (ad 330)] ++ List.replicate (6 - (lg_sl [.ref (ad 0), .int a0, .int a1, .int a2, .ref (ad 330)]).length) Slot.unset).toArray = ls at hl ⊢
  have hl : lv_has ls 6 [(0, .ref (ad 0)), (1, .int a0), (2, .int a1), (3, .int a2), (4, .ref (ad 330))] := hl
  refine lv_aload hx hb dL_above_0 (lv_at hl 4 rfl) ?_
  refine lv_iconst (v := 0) hx hb dL_above_2 (by decide) ?_
  refine lv_aload_n hx hb dL_above_3 rfl (lv_at hl 0 rfl) ?_
  refine lv_iload_n hx hb dL_above_4 rfl (lv_at hl 1 rfl) ?_
  refine lv_iload_n hx hb dL_above_5 rfl (lv_at hl 2 rfl) ?_
  refine lv_iload_n hx hb dL_above_6 rfl (lv_at hl 3 rfl) ?_
  refine vx_calll (vx_runV (As := [.int a0, .int a1, .int a2]) (rest := [.int 0, .ref (ad 330)]) hC (cX8_above_ok hls h) (cwV 3 hC.2.2.2.2 (WALL_cons mlh_above (WALL_cons wih_above (WALL_cons wsh_above (WALL_cons wn_X8' (WALL_code wch_above))))) rfl rfl rfl ⟨rfl, hdh_above⟩ ⟨by decide, by decide⟩) ⟨PrX.blind, va_recv hG.1.1 hM.1 (ci := 8) (q0 := 0) rfl (by rw [MM_get cy ad (kd_lt h0 (by decide)).1, cellOf_obj cy ad (kd_lt h0 (by decide)).2 (by decide)]), fun U hU hW => ⟨rfl, hM.preX hG U hU hW⟩⟩ rfl rfl hl.1 rfl (lv_room (Nat.le_of_ble_eq_true rfl)) dL_above_7 ⟨by decide, by decide⟩) hM.2.2.1 (fun q _ h => h) (fun q h => h) (fun q _ h => h) (fun E ce q9 u t H1 locs1 ht hvm hw hB hz1 hk1 hS hq9 hcv hcl => ?_) (fun r0 u t H1 locs1 ht hvm hw hB hz1 hk1 hS => ?_)
  · obtain ⟨rfl, rfl⟩ := hw
    obtain ⟨rfl, hP1, hD1⟩ := hB
    rw [ht] at hP1
    refine vx_catch (own := RL) (name := nse) hC.2.2.2.1 [] ⟨0, 11, 14, 13⟩ [] htab (fun z hz => nomatch hz) (by decide) (by decide) (hC.2.2.2.2 _ wcl_nseL) (hG.2.1.use _ cast_nse) hq9 hcv hcl ?_
    refine lv_astore (lv' := [(5, .ref q9), (0, .ref (ad 0)), (1, .int a0), (2, .int a1), (3, .int a2), (4, .ref (ad 330))]) hx hb dL_above_14 hl (by decide) (by first | rfl | simp [va_cat, vcI, vcL, vcR]) (fun ls hl => ?_)
    refine lv_iconst (v := 1) hx hb dL_above_16 (by decide) ?_
    exact W.iret (v := 1) hx hb hr (fun t ht hW => ⟨⟨1, _, rfl, ⟨rfl, rfl⟩, by rw [ht]; exact hP1, hD1⟩, hS.F ht⟩) hS.2.2 dL_above_17 hlocks
  · obtain ⟨rfl, rfl⟩ := hw
    have hM : MS D cy ad A s.heap z u H1 locs1 := MS.post hB ht hS
    refine g_last (v := some 330) hx hb hG.1 hM (wJ_out (r0) ho hl1) dL_above_10 (fun H locs hM => ?_)
    refine lv_goto (tgt := 18) hx hb dL_above_11 (by decide) ?_
    refine lv_iconst (v := 0) hx hb dL_above_18 (by decide) ?_
    exact W.iret (v := 0) hx hb hr (fun t ht hW => ⟨⟨0, _, rfl, ⟨rfl, rfl⟩, by rw [ht]; exact hM.1, hM.2.1⟩, hM.2.2.1.F ht⟩) hM.2.2.1.2.2 dL_above_19 hlocks
