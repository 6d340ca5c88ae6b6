theorem dv0 : ∀ j, j < 5 → defaultValue (tyX0 j) = if (sg 0).getD j 0 = 0 then Value.int 0 else if (sg 0).getD j 0 = 1 then Value.long 0 else Value.null := by decide +kernel
theorem wia_0 : Cond.instantiable RX0 5 ∈ WALL := WALL_of (by decide +kernel) (by decide +kernel)
theorem wni_X0 : Cond.initialized RX0 ∈ WALL := WALL_of (List.mem_of_getElem? (i := 79) (by decide +kernel)) (by decide +kernel)
theorem dv1 : ∀ j, j < 4 → defaultValue (tyX1 j) = if (sg 1).getD j 0 = 0 then Value.int 0 else if (sg 1).getD j 0 = 1 then Value.long 0 else Value.null := by decide +kernel
theorem wia_1 : Cond.instantiable RX1 4 ∈ WALL := WALL_of (by decide +kernel) (by decide +kernel)
theorem wni_X1 : Cond.initialized RX1 ∈ WALL := WALL_of (List.mem_of_getElem? (i := 82) (by decide +kernel)) (by decide +kernel)
theorem dv2 : ∀ j, j < 8 → defaultValue (tyX2 j) = if (sg 2).getD j 0 = 0 then Value.int 0 else if (sg 2).getD j 0 = 1 then Value.long 0 else Value.null := by decide +kernel
theorem wia_2 : Cond.instantiable RX2 8 ∈ WALL := WALL_of (by decide +kernel) (by decide +kernel)
theorem wni_X2 : Cond.initialized RX2 ∈ WALL := WALL_of (List.mem_of_getElem? (i := 78) (by decide +kernel)) (by decide +kernel)
theorem dv3 : ∀ j, j < 2 → defaultValue (tyX3 j) = if (sg 3).getD j 0 = 0 then Value.int 0 else if (sg 3).getD j 0 = 1 then Value.long 0 else Value.null := by decide +kernel
theorem wia_3 : Cond.instantiable RX3 2 ∈ WALL := WALL_of (by decide +kernel) (by decide +kernel)
theorem wni_X3 : Cond.initialized RX3 ∈ WALL := WALL_of (List.mem_of_getElem? (i := 77) (by decide +kernel)) (by decide +kernel)
theorem dv4 : ∀ j, j < 12 → defaultValue (tyX4 j) = if (sg 4).getD j 0 = 0 then Value.int 0 else if (sg 4).getD j 0 = 1 then Value.long 0 else Value.null := by decide +kernel
theorem wia_4 : Cond.instantiable RX4 12 ∈ WALL := WALL_of (by decide +kernel) (by decide +kernel)
theorem wni_X4 : Cond.initialized RX4 ∈ WALL := WALL_of (List.mem_of_getElem? (i := 76) (by decide +kernel)) (by decide +kernel)
theorem dv5 : ∀ j, j < 8 → defaultValue (tyX5 j) = if (sg 5).getD j 0 = 0 then Value.int 0 else if (sg 5).getD j 0 = 1 then Value.long 0 else Value.null := by decide +kernel
theorem wia_5 : Cond.instantiable RX5 8 ∈ WALL := WALL_of (by decide +kernel) (by decide +kernel)
theorem wni_X5 : Cond.initialized RX5 ∈ WALL := WALL_of (List.mem_of_getElem? (i := 81) (by decide +kernel)) (by decide +kernel)
theorem dv6 : ∀ j, j < 2 → defaultValue (tyX6 j) = if (sg 6).getD j 0 = 0 then Value.int 0 else if (sg 6).getD j 0 = 1 then Value.long 0 else Value.null := by decide +kernel
theorem wia_6 : Cond.instantiable RX6 2 ∈ WALL := WALL_of (by decide +kernel) (by decide +kernel)
theorem wni_X6 : Cond.initialized RX6 ∈ WALL := WALL_of (List.mem_of_getElem? (i := 75) (by decide +kernel)) (by decide +kernel)
theorem dv7 : ∀ j, j < 2 → defaultValue (tyX7 j) = if (sg 7).getD j 0 = 0 then Value.int 0 else if (sg 7).getD j 0 = 1 then Value.long 0 else Value.null := by decide +kernel
theorem wia_7 : Cond.instantiable RX7 2 ∈ WALL := WALL_of (by decide +kernel) (by decide +kernel)
theorem wni_X7 : Cond.initialized RX7 ∈ WALL := WALL_of (List.mem_of_getElem? (i := 80) (by decide +kernel)) (by decide +kernel)
theorem dv8 : ∀ j, j < 12 → defaultValue (tyX8 j) = if (sg 8).getD j 0 = 0 then Value.int 0 else if (sg 8).getD j 0 = 1 then Value.long 0 else Value.null := by decide +kernel
theorem wia_8 : Cond.instantiable RX8 12 ∈ WALL := WALL_of (by decide +kernel) (by decide +kernel)
theorem wni_X8 : Cond.initialized RX8 ∈ WALL := WALL_of (List.mem_of_getElem? (i := 74) (by decide +kernel)) (by decide +kernel)
theorem dv9 : ∀ j, j < 42 → defaultValue (tyX9 j) = if (sg 9).getD j 0 = 0 then Value.int 0 else if (sg 9).getD j 0 = 1 then Value.long 0 else Value.null := by decide +kernel
theorem wia_9 : Cond.instantiable RX9 42 ∈ WALL := WALL_of (by decide +kernel) (by decide +kernel)
theorem wni_X9 : Cond.initialized RX9 ∈ WALL := WALL_of (List.mem_of_getElem? (i := 83) (by decide +kernel)) (by decide +kernel)
theorem wa_int : Cond.arrayClass .int ∈ WALL := WALL_of (by decide +kernel) (by decide +kernel)
theorem wa_long : Cond.arrayClass .long ∈ WALL := WALL_of (by decide +kernel) (by decide +kernel)
theorem wa_byte : Cond.arrayClass .byte ∈ WALL := WALL_of (by decide +kernel) (by decide +kernel)
theorem wa_boolean : Cond.arrayClass .boolean ∈ WALL := WALL_of (by decide +kernel) (by decide +kernel)
theorem wo_i : Cond.instanceMethod objectInit ∈ WALL := WALL_of (by decide +kernel) (by decide +kernel)
theorem wo_c : Cond.code objectInit ⟨#[0xb1]⟩ 1 none ∈ WALL := WALL_of (by decide +kernel) (by decide +kernel)
theorem pR_gN {σ τ : Mem} {k j : Nat} {v x : Option Nat} (h : pR σ k j v x = some τ) : gN τ = gN σ := by
  obtain ⟨c, -, -, rfl⟩ := pR_some h
  rfl
theorem wR_gN {σ τ : Mem} {k kx : Nat} {v x : Option Nat} {i : Int32} (h : wR σ k kx v i x = some τ) : gN τ = gN σ := by
  obtain ⟨c, d, -, -, -, -, -, rfl⟩ := wR_some h
  rfl
theorem wol_X0_3 : Cond.methodLink RX0 3 objectInit ∈ WALL := WALL_of (by decide +kernel) (by decide +kernel)
theorem flc_X0_9 : Cond.fieldLink RX0 9 "TariffDesk$Part" "stepEnds" "[I" ∈ WALL := WALL_of (List.mem_of_getElem? (i := 140) (by decide +kernel)) (by decide +kernel)
theorem flc_X0_15 : Cond.fieldLink RX0 15 "TariffDesk$Part" "stepCents" "[I" ∈ WALL := WALL_of (List.mem_of_getElem? (i := 141) (by decide +kernel)) (by decide +kernel)
def fX0_init (o0 : Nat) (σ : Mem) : Option Mem :=
  bd (gN σ) fun t1 =>
  bd (al σ 11 3) fun m2 =>
  (pR m2 0 0 (some o0) (some t1)).bind fun m3 =>
  bd (gN m3) fun t4 =>
  bd (al m3 11 3) fun m5 =>
  (pR m5 0 1 (some o0) (some t4)).bind fun m6 =>
  some m6
set_option maxRecDepth 20000 in
set_option maxHeartbeats 4000000 in
theorem wX0_init {p : Program} {l : Launch} {e : Env} {s : State} {m : MethodId} {args : Array Value} {below : List Frame} {meth : Method} {c : Code} {Q : State → Prop} {D : va_G} {cy : Nat → ClassId} {z0 : Nat} {A : Nat → Prop} {σ' : Mem} (hC : CallFix p m c cX0_init 1 s args WALL RX0) (hG : GC D cy A s) (hin : meth.name = "<init>") (Kr : KrN p l e (rmC 1 2 6) s m args below meth c cX0_init Q D cy z0 A 2 6 σ') (o0 : Nat) (σ : Mem) (H : Heap) (locs : List Loc) (ls : Array Slot) (h : fX0_init o0 σ = some σ') (hM : MC D cy z0 A s.heap σ H locs) (hl : lv_has ls 1 [(0, va_rf (Option.map (adz z0) (some o0)))]) : W p l e (rmC 1 2 6) s m args below meth c H locs 0 0 Q (F0 m 0 ls []) := by
  have hx := hC.1
  have hb := hC.2.1
  unfold fX0_init at h
  refine lr_aload_n hx hb dX0_init_0 rfl (lv_at hl 0 rfl) ?_
  refine W.objInit hx hb hC.2.2.2.1 (hC.2.2.2.2 _ wol_X0_3) (hC.2.2.2.2 _ wo_i) (hC.2.2.2.2 _ wo_c) rfl (hl.1.trans hC.2.2.1.symm) rfl dX0_init_1 (Nat.le_of_ble_eq_true rfl) (Nat.le_of_ble_eq_true rfl) ?_
  refine W.eq (g2 := F0 m 4 ls []) rfl ?_
  refine lr_aload_n hx hb dX0_init_4 rfl (lv_at hl 0 rfl) ?_
  refine lv_iconst (v := 3) hx hb dX0_init_5 (by decide) ?_
  obtain ⟨t1, e_t1, h⟩ := bd_elim h
  obtain ⟨m2, e_m2, h⟩ := bd_elim h
  refine m_newI (atype := .int) (N := 3) 11 1 (by decide) hx hb (hC.2.2.2.2 _ wa_int) hG.1 rfl (fun h => h) rfl hM (by decide) (by decide) (by decide) (by decide) (by decide) dX0_init_6 (fun H hM => ?_)
  rw [← e_t1]
  rw [← e_m2] at hM
  obtain ⟨m3, e_m3, h⟩ := bn h
  refine m_putF (T := TX0) hC inW0 tyX0 tyX0_ok nmX0 hG.1 hM 0 e_m3 (by decide) rfl rfl (by decide) rfl flc_X0_9 rfl rfl hin rfl (tyX0_ok 0 (by decide)) (nr_arr _) dX0_init_8 (fun H locs hM => ?_)
  refine lr_aload_n hx hb dX0_init_11 rfl (lv_at hl 0 rfl) ?_
  refine lv_iconst (v := 3) hx hb dX0_init_12 (by decide) ?_
  obtain ⟨t4, e_t4, h⟩ := bd_elim h
  obtain ⟨m5, e_m5, h⟩ := bd_elim h
  refine m_newI (atype := .int) (N := 3) 11 1 (by decide) hx hb (hC.2.2.2.2 _ wa_int) hG.1 rfl (fun h => h) rfl hM (by decide) (by decide) (by decide) (by decide) (by decide) dX0_init_13 (fun H hM => ?_)
  rw [← e_t4]
  rw [← e_m5] at hM
  obtain ⟨m6, e_m6, h⟩ := bn h
  refine m_putF (T := TX0) hC inW0 tyX0 tyX0_ok nmX0 hG.1 hM 1 e_m6 (by decide) rfl rfl (by decide) rfl flc_X0_15 rfl rfl hin rfl (tyX0_ok 1 (by decide)) (nr_arr _) dX0_init_15 (fun H locs hM => ?_)
  obtain rfl := Option.some.inj h
  exact Kr _ _ _ _ dX0_init_18 hM
theorem cX0_init_ok {l : Launch} {D : va_G} {cy : Nat → ClassId} {z0 : Nat} {A : Nat → Prop} {o0 : Nat} {σ σ' : Mem} (h : fX0_init o0 σ = some σ') : CtN l yX0_init cX0_init 1 1 2 6 [.ref (adz z0 o0)] D cy z0 A σ σ' :=
  enterN (own := RX0) (by decide) rfl rfl (Nat.le_of_ble_eq_true rfl) (fun p e s m below meth c Q ls hC hG hM hin Kr hl => wX0_init hC hG hin Kr _ _ _ _ _ h hM hl)
theorem wol_X6_3 : Cond.methodLink RX6 3 objectInit ∈ WALL := WALL_of (by decide +kernel) (by decide +kernel)
theorem flc_X6_9 : Cond.fieldLink RX6 9 "TariffDesk$Tape" "bytes" "[B" ∈ WALL := WALL_of (List.mem_of_getElem? (i := 103) (by decide +kernel)) (by decide +kernel)
def fX6_init (o0 : Nat) (σ : Mem) : Option Mem :=
  bd (gN σ) fun t1 =>
  bd (al σ 10 840) fun m2 =>
  (pR m2 6 0 (some o0) (some t1)).bind fun m3 =>
  some m3
set_option maxRecDepth 20000 in
set_option maxHeartbeats 4000000 in
theorem wX6_init {p : Program} {l : Launch} {e : Env} {s : State} {m : MethodId} {args : Array Value} {below : List Frame} {meth : Method} {c : Code} {Q : State → Prop} {D : va_G} {cy : Nat → ClassId} {z0 : Nat} {A : Nat → Prop} {σ' : Mem} (hC : CallFix p m c cX6_init 1 s args WALL RX6) (hG : GC D cy A s) (hin : meth.name = "<init>") (Kr : KrN p l e (rmC 1 1 840) s m args below meth c cX6_init Q D cy z0 A 1 840 σ') (o0 : Nat) (σ : Mem) (H : Heap) (locs : List Loc) (ls : Array Slot) (h : fX6_init o0 σ = some σ') (hM : MC D cy z0 A s.heap σ H locs) (hl : lv_has ls 1 [(0, va_rf (Option.map (adz z0) (some o0)))]) : W p l e (rmC 1 1 840) s m args below meth c H locs 0 0 Q (F0 m 0 ls []) := by
  have hx := hC.1
  have hb := hC.2.1
  unfold fX6_init at h
  refine lr_aload_n hx hb dX6_init_0 rfl (lv_at hl 0 rfl) ?_
  refine W.objInit hx hb hC.2.2.2.1 (hC.2.2.2.2 _ wol_X6_3) (hC.2.2.2.2 _ wo_i) (hC.2.2.2.2 _ wo_c) rfl (hl.1.trans hC.2.2.1.symm) rfl dX6_init_1 (Nat.le_of_ble_eq_true rfl) (Nat.le_of_ble_eq_true rfl) ?_
  refine W.eq (g2 := F0 m 4 ls []) rfl ?_
  refine lr_aload_n hx hb dX6_init_4 rfl (lv_at hl 0 rfl) ?_
  refine lv_sipush (v := 840) hx hb dX6_init_5 (by decide) ?_
  obtain ⟨t1, e_t1, h⟩ := bd_elim h
  obtain ⟨m2, e_m2, h⟩ := bd_elim h
  refine m_newI (atype := .byte) (N := 840) 10 0 (by decide) hx hb (hC.2.2.2.2 _ wa_byte) hG.1 rfl (fun h => h) rfl hM (by decide) (by decide) (by decide) (by decide) (by decide) dX6_init_8 (fun H hM => ?_)
  rw [← e_t1]
  rw [← e_m2] at hM
  obtain ⟨m3, e_m3, h⟩ := bn h
  refine m_putF (T := TX6) hC inW6 tyX6 tyX6_ok nmX6 hG.1 hM 0 e_m3 (by decide) rfl rfl (by decide) rfl flc_X6_9 rfl rfl hin rfl (tyX6_ok 0 (by decide)) (nr_arr _) dX6_init_10 (fun H locs hM => ?_)
  obtain rfl := Option.some.inj h
  exact Kr _ _ _ _ dX6_init_13 hM
theorem cX6_init_ok {l : Launch} {D : va_G} {cy : Nat → ClassId} {z0 : Nat} {A : Nat → Prop} {o0 : Nat} {σ σ' : Mem} (h : fX6_init o0 σ = some σ') : CtN l yX6_init cX6_init 1 1 1 840 [.ref (adz z0 o0)] D cy z0 A σ σ' :=
  enterN (own := RX6) (by decide) rfl rfl (Nat.le_of_ble_eq_true rfl) (fun p e s m below meth c Q ls hC hG hM hin Kr hl => wX6_init hC hG hin Kr _ _ _ _ _ h hM hl)
theorem wol_X7_3 : Cond.methodLink RX7 3 objectInit ∈ WALL := WALL_of (by decide +kernel) (by decide +kernel)
theorem flc_X7_9 : Cond.fieldLink RX7 9 "TariffDesk$UseBook" "units" "[I" ∈ WALL := WALL_of (List.mem_of_getElem? (i := 259) (by decide +kernel)) (by decide +kernel)
theorem flc_X7_15 : Cond.fieldLink RX7 15 "TariffDesk$UseBook" "sums" "[I" ∈ WALL := WALL_of (List.mem_of_getElem? (i := 260) (by decide +kernel)) (by decide +kernel)
def fX7_init (o0 : Nat) (σ : Mem) : Option Mem :=
  bd (gN σ) fun t1 =>
  bd (al σ 11 384) fun m2 =>
  (pR m2 7 0 (some o0) (some t1)).bind fun m3 =>
  bd (gN m3) fun t4 =>
  bd (al m3 11 4) fun m5 =>
  (pR m5 7 1 (some o0) (some t4)).bind fun m6 =>
  some m6
set_option maxRecDepth 20000 in
set_option maxHeartbeats 4000000 in
theorem wX7_init {p : Program} {l : Launch} {e : Env} {s : State} {m : MethodId} {args : Array Value} {below : List Frame} {meth : Method} {c : Code} {Q : State → Prop} {D : va_G} {cy : Nat → ClassId} {z0 : Nat} {A : Nat → Prop} {σ' : Mem} (hC : CallFix p m c cX7_init 1 s args WALL RX7) (hG : GC D cy A s) (hin : meth.name = "<init>") (Kr : KrN p l e (rmC 1 2 388) s m args below meth c cX7_init Q D cy z0 A 2 388 σ') (o0 : Nat) (σ : Mem) (H : Heap) (locs : List Loc) (ls : Array Slot) (h : fX7_init o0 σ = some σ') (hM : MC D cy z0 A s.heap σ H locs) (hl : lv_has ls 1 [(0, va_rf (Option.map (adz z0) (some o0)))]) : W p l e (rmC 1 2 388) s m args below meth c H locs 0 0 Q (F0 m 0 ls []) := by
  have hx := hC.1
  have hb := hC.2.1
  unfold fX7_init at h
  refine lr_aload_n hx hb dX7_init_0 rfl (lv_at hl 0 rfl) ?_
  refine W.objInit hx hb hC.2.2.2.1 (hC.2.2.2.2 _ wol_X7_3) (hC.2.2.2.2 _ wo_i) (hC.2.2.2.2 _ wo_c) rfl (hl.1.trans hC.2.2.1.symm) rfl dX7_init_1 (Nat.le_of_ble_eq_true rfl) (Nat.le_of_ble_eq_true rfl) ?_
  refine W.eq (g2 := F0 m 4 ls []) rfl ?_
  refine lr_aload_n hx hb dX7_init_4 rfl (lv_at hl 0 rfl) ?_
  refine lv_sipush (v := 384) hx hb dX7_init_5 (by decide) ?_
  obtain ⟨t1, e_t1, h⟩ := bd_elim h
  obtain ⟨m2, e_m2, h⟩ := bd_elim h
  refine m_newI (atype := .int) (N := 384) 11 1 (by decide) hx hb (hC.2.2.2.2 _ wa_int) hG.1 rfl (fun h => h) rfl hM (by decide) (by decide) (by decide) (by decide) (by decide) dX7_init_8 (fun H hM => ?_)
  rw [← e_t1]
  rw [← e_m2] at hM
  obtain ⟨m3, e_m3, h⟩ := bn h
  refine m_putF (T := TX7) hC inW7 tyX7 tyX7_ok nmX7 hG.1 hM 0 e_m3 (by decide) rfl rfl (by decide) rfl flc_X7_9 rfl rfl hin rfl (tyX7_ok 0 (by decide)) (nr_arr _) dX7_init_10 (fun H locs hM => ?_)
  refine lr_aload_n hx hb dX7_init_13 rfl (lv_at hl 0 rfl) ?_
  refine lv_iconst (v := 4) hx hb dX7_init_14 (by decide) ?_
  obtain ⟨t4, e_t4, h⟩ := bd_elim h
  obtain ⟨m5, e_m5, h⟩ := bd_elim h
  refine m_newI (atype := .int) (N := 4) 11 1 (by decide) hx hb (hC.2.2.2.2 _ wa_int) hG.1 rfl (fun h => h) rfl hM (by decide) (by decide) (by decide) (by decide) (by decide) dX7_init_15 (fun H hM => ?_)
  rw [← e_t4]
  rw [← e_m5] at hM
  obtain ⟨m6, e_m6, h⟩ := bn h
  refine m_putF (T := TX7) hC inW7 tyX7 tyX7_ok nmX7 hG.1 hM 1 e_m6 (by decide) rfl rfl (by decide) rfl flc_X7_15 rfl rfl hin rfl (tyX7_ok 1 (by decide)) (nr_arr _) dX7_init_17 (fun H locs hM => ?_)
  obtain rfl := Option.some.inj h
  exact Kr _ _ _ _ dX7_init_20 hM
theorem cX7_init_ok {l : Launch} {D : va_G} {cy : Nat → ClassId} {z0 : Nat} {A : Nat → Prop} {o0 : Nat} {σ σ' : Mem} (h : fX7_init o0 σ = some σ') : CtN l yX7_init cX7_init 1 1 2 388 [.ref (adz z0 o0)] D cy z0 A σ σ' :=
  enterN (own := RX7) (by decide) rfl rfl (Nat.le_of_ble_eq_true rfl) (fun p e s m below meth c Q ls hC hG hM hin Kr hl => wX7_init hC hG hin Kr _ _ _ _ _ h hM hl)
theorem wol_X5_3 : Cond.methodLink RX5 3 objectInit ∈ WALL := WALL_of (by decide +kernel) (by decide +kernel)
theorem flc_X5_9 : Cond.fieldLink RX5 9 "TariffDesk$RowFinder" "monthCents" "[J" ∈ WALL := WALL_of (List.mem_of_getElem? (i := 272) (by decide +kernel)) (by decide +kernel)
theorem flc_X5_15 : Cond.fieldLink RX5 15 "TariffDesk$RowFinder" "begunCents" "[J" ∈ WALL := WALL_of (List.mem_of_getElem? (i := 273) (by decide +kernel)) (by decide +kernel)
theorem flc_X5_18 : Cond.fieldLink RX5 18 "TariffDesk$RowFinder" "freedCents" "[J" ∈ WALL := WALL_of (List.mem_of_getElem? (i := 274) (by decide +kernel)) (by decide +kernel)
theorem flc_X5_21 : Cond.fieldLink RX5 21 "TariffDesk$RowFinder" "freedChoice" "[I" ∈ WALL := WALL_of (List.mem_of_getElem? (i := 275) (by decide +kernel)) (by decide +kernel)
def fX5_init (o0 : Nat) (σ : Mem) : Option Mem :=
  bd (gN σ) fun t1 =>
  bd (al σ 12 240) fun m2 =>
  (pR m2 5 0 (some o0) (some t1)).bind fun m3 =>
  bd (gN m3) fun t4 =>
  bd (al m3 12 240) fun m5 =>
  (pR m5 5 1 (some o0) (some t4)).bind fun m6 =>
  bd (gN m6) fun t7 =>
  bd (al m6 12 240) fun m8 =>
  (pR m8 5 2 (some o0) (some t7)).bind fun m9 =>
  bd (gN m9) fun t10 =>
  bd (al m9 11 240) fun m11 =>
  (pR m11 5 3 (some o0) (some t10)).bind fun m12 =>
  some m12
set_option maxRecDepth 20000 in
set_option maxHeartbeats 4000000 in
theorem wX5_init {p : Program} {l : Launch} {e : Env} {s : State} {m : MethodId} {args : Array Value} {below : List Frame} {meth : Method} {c : Code} {Q : State → Prop} {D : va_G} {cy : Nat → ClassId} {z0 : Nat} {A : Nat → Prop} {σ' : Mem} (hC : CallFix p m c cX5_init 1 s args WALL RX5) (hG : GC D cy A s) (hin : meth.name = "<init>") (Kr : KrN p l e (rmC 1 4 960) s m args below meth c cX5_init Q D cy z0 A 4 960 σ') (o0 : Nat) (σ : Mem) (H : Heap) (locs : List Loc) (ls : Array Slot) (h : fX5_init o0 σ = some σ') (hM : MC D cy z0 A s.heap σ H locs) (hl : lv_has ls 1 [(0, va_rf (Option.map (adz z0) (some o0)))]) : W p l e (rmC 1 4 960) s m args below meth c H locs 0 0 Q (F0 m 0 ls []) := by
  have hx := hC.1
  have hb := hC.2.1
  unfold fX5_init at h
  refine lr_aload_n hx hb dX5_init_0 rfl (lv_at hl 0 rfl) ?_
  refine W.objInit hx hb hC.2.2.2.1 (hC.2.2.2.2 _ wol_X5_3) (hC.2.2.2.2 _ wo_i) (hC.2.2.2.2 _ wo_c) rfl (hl.1.trans hC.2.2.1.symm) rfl dX5_init_1 (Nat.le_of_ble_eq_true rfl) (Nat.le_of_ble_eq_true rfl) ?_
  refine W.eq (g2 := F0 m 4 ls []) rfl ?_
  refine lr_aload_n hx hb dX5_init_4 rfl (lv_at hl 0 rfl) ?_
  refine lv_sipush (v := 240) hx hb dX5_init_5 (by decide) ?_
  obtain ⟨t1, e_t1, h⟩ := bd_elim h
  obtain ⟨m2, e_m2, h⟩ := bd_elim h
  refine m_newJ (N := 240) hx hb (hC.2.2.2.2 _ wa_long) hG.1 hM (by decide) (by decide) (by decide) (by decide) (by decide) dX5_init_8 (fun H hM => ?_)
  rw [← e_t1]
  rw [← e_m2] at hM
  obtain ⟨m3, e_m3, h⟩ := bn h
  refine m_putF (T := TX5) hC inW5 tyX5 tyX5_ok nmX5 hG.1 hM 0 e_m3 (by decide) rfl rfl (by decide) rfl flc_X5_9 rfl rfl hin rfl (tyX5_ok 0 (by decide)) (nr_arr _) dX5_init_10 (fun H locs hM => ?_)
  refine lr_aload_n hx hb dX5_init_13 rfl (lv_at hl 0 rfl) ?_
  refine lv_sipush (v := 240) hx hb dX5_init_14 (by decide) ?_
  obtain ⟨t4, e_t4, h⟩ := bd_elim h
  obtain ⟨m5, e_m5, h⟩ := bd_elim h
  refine m_newJ (N := 240) hx hb (hC.2.2.2.2 _ wa_long) hG.1 hM (by decide) (by decide) (by decide) (by decide) (by decide) dX5_init_17 (fun H hM => ?_)
  rw [← e_t4]
  rw [← e_m5] at hM
  obtain ⟨m6, e_m6, h⟩ := bn h
  refine m_putF (T := TX5) hC inW5 tyX5 tyX5_ok nmX5 hG.1 hM 1 e_m6 (by decide) rfl rfl (by decide) rfl flc_X5_15 rfl rfl hin rfl (tyX5_ok 1 (by decide)) (nr_arr _) dX5_init_19 (fun H locs hM => ?_)
  refine lr_aload_n hx hb dX5_init_22 rfl (lv_at hl 0 rfl) ?_
  refine lv_sipush (v := 240) hx hb dX5_init_23 (by decide) ?_
  obtain ⟨t7, e_t7, h⟩ := bd_elim h
  obtain ⟨m8, e_m8, h⟩ := bd_elim h
  refine m_newJ (N := 240) hx hb (hC.2.2.2.2 _ wa_long) hG.1 hM (by decide) (by decide) (by decide) (by decide) (by decide) dX5_init_26 (fun H hM => ?_)
  rw [← e_t7]
  rw [← e_m8] at hM
  obtain ⟨m9, e_m9, h⟩ := bn h
  refine m_putF (T := TX5) hC inW5 tyX5 tyX5_ok nmX5 hG.1 hM 2 e_m9 (by decide) rfl rfl (by decide) rfl flc_X5_18 rfl rfl hin rfl (tyX5_ok 2 (by decide)) (nr_arr _) dX5_init_28 (fun H locs hM => ?_)
  refine lr_aload_n hx hb dX5_init_31 rfl (lv_at hl 0 rfl) ?_
  refine lv_sipush (v := 240) hx hb dX5_init_32 (by decide) ?_
  obtain ⟨t10, e_t10, h⟩ := bd_elim h
  obtain ⟨m11, e_m11, h⟩ := bd_elim h
  refine m_newI (atype := .int) (N := 240) 11 1 (by decide) hx hb (hC.2.2.2.2 _ wa_int) hG.1 rfl (fun h => h) rfl hM (by decide) (by decide) (by decide) (by decide) (by decide) dX5_init_35 (fun H hM => ?_)
  rw [← e_t10]
  rw [← e_m11] at hM
  obtain ⟨m12, e_m12, h⟩ := bn h
  refine m_putF (T := TX5) hC inW5 tyX5 tyX5_ok nmX5 hG.1 hM 3 e_m12 (by decide) rfl rfl (by decide) rfl flc_X5_21 rfl rfl hin rfl (tyX5_ok 3 (by decide)) (nr_arr _) dX5_init_37 (fun H locs hM => ?_)
  obtain rfl := Option.some.inj h
  exact Kr _ _ _ _ dX5_init_40 hM
theorem cX5_init_ok {l : Launch} {D : va_G} {cy : Nat → ClassId} {z0 : Nat} {A : Nat → Prop} {o0 : Nat} {σ σ' : Mem} (h : fX5_init o0 σ = some σ') : CtN l yX5_init cX5_init 1 1 4 960 [.ref (adz z0 o0)] D cy z0 A σ σ' :=
  enterN (own := RX5) (by decide) rfl rfl (Nat.le_of_ble_eq_true rfl) (fun p e s m below meth c Q ls hC hG hM hin Kr hl => wX5_init hC hG hin Kr _ _ _ _ _ h hM hl)
theorem wol_X1_3 : Cond.methodLink RX1 3 objectInit ∈ WALL := WALL_of (by decide +kernel) (by decide +kernel)
theorem flc_X1_9 : Cond.fieldLink RX1 9 "TariffDesk$Parting" "bests" "[J" ∈ WALL := WALL_of (List.mem_of_getElem? (i := 308) (by decide +kernel)) (by decide +kernel)
theorem flc_X1_15 : Cond.fieldLink RX1 15 "TariffDesk$Parting" "leastCents" "[J" ∈ WALL := WALL_of (List.mem_of_getElem? (i := 309) (by decide +kernel)) (by decide +kernel)
theorem flc_X1_18 : Cond.fieldLink RX1 18 "TariffDesk$Parting" "firstGroup" "[I" ∈ WALL := WALL_of (List.mem_of_getElem? (i := 310) (by decide +kernel)) (by decide +kernel)
theorem flc_X1_22 : Cond.fieldLink RX1 22 "TariffDesk$Parting" "groups" "[I" ∈ WALL := WALL_of (List.mem_of_getElem? (i := 311) (by decide +kernel)) (by decide +kernel)
theorem mlv_X1_25 : Cond.methodLink RX1 25 yX1_forget ∈ WALL := WALL_of (List.mem_of_getElem? (i := 304) (by decide +kernel)) (by decide +kernel)
theorem wcv_X1_forget : Cond.code yX1_forget cX1_forget 2 none ∈ WALL := WALL_of (List.mem_of_getElem? (i := 307) (by decide +kernel)) (by decide +kernel)
theorem wiv_X1_forget : Cond.instanceMethod yX1_forget ∈ WALL := WALL_of (List.mem_of_getElem? (i := 306) (by decide +kernel)) (by decide +kernel)
theorem wsv_X1_forget : Cond.selects RX1 yX1_forget yX1_forget ∈ WALL := WALL_of (List.mem_of_getElem? (i := 1) (by decide +kernel)) (by decide +kernel)
theorem hdv_X1_forget : yX1_forget.cls ≠ "java/lang/invoke/MethodHandle" ∧ yX1_forget.cls ≠ "java/lang/invoke/VarHandle" ∧ (parseMethodDescriptor yX1_forget.desc).map (fun d => d.parameters.length) = some 0 := by decide +kernel
def fX1_init (o0 : Nat) (σ : Mem) : Option Mem :=
  bd (gN σ) fun t1 =>
  bd (al σ 12 16) fun m2 =>
  (pR m2 1 0 (some o0) (some t1)).bind fun m3 =>
  bd (gN m3) fun t4 =>
  bd (al m3 12 16) fun m5 =>
  (pR m5 1 1 (some o0) (some t4)).bind fun m6 =>
  bd (gN m6) fun t7 =>
  bd (al m6 11 16) fun m8 =>
  (pR m8 1 2 (some o0) (some t7)).bind fun m9 =>
  bd (gN m9) fun t10 =>
  bd (al m9 11 4) fun m11 =>
  (pR m11 1 3 (some o0) (some t10)).bind fun m12 =>
  (kT m12 1 (some o0)).bind fun k13 =>
  (fX1_forget k13 m12).bind fun m14 =>
  if gN m14 = gN m12 then
  some m14
  else none
set_option maxRecDepth 20000 in
set_option maxHeartbeats 4000000 in
theorem wX1_init {p : Program} {l : Launch} {e : Env} {s : State} {m : MethodId} {args : Array Value} {below : List Frame} {meth : Method} {c : Code} {Q : State → Prop} {D : va_G} {cy : Nat → ClassId} {z0 : Nat} {A : Nat → Prop} {σ' : Mem} (hC : CallFix p m c cX1_init 1 s args WALL RX1) (hG : GC D cy A s) (hin : meth.name = "<init>") (Kr : KrN p l e (rmC 1 4 52) s m args below meth c cX1_init Q D cy z0 A 4 52 σ') (o0 : Nat) (σ : Mem) (H : Heap) (locs : List Loc) (ls : Array Slot) (h : fX1_init o0 σ = some σ') (hM : MC D cy z0 A s.heap σ H locs) (hl : lv_has ls 1 [(0, va_rf (Option.map (adz z0) (some o0)))]) : W p l e (rmC 1 4 52) s m args below meth c H locs 0 0 Q (F0 m 0 ls []) := by
  have hx := hC.1
  have hb := hC.2.1
  unfold fX1_init at h
  refine lr_aload_n hx hb dX1_init_0 rfl (lv_at hl 0 rfl) ?_
  refine W.objInit hx hb hC.2.2.2.1 (hC.2.2.2.2 _ wol_X1_3) (hC.2.2.2.2 _ wo_i) (hC.2.2.2.2 _ wo_c) rfl (hl.1.trans hC.2.2.1.symm) rfl dX1_init_1 (Nat.le_of_ble_eq_true rfl) (Nat.le_of_ble_eq_true rfl) ?_
  refine W.eq (g2 := F0 m 4 ls []) rfl ?_
  refine lr_aload_n hx hb dX1_init_4 rfl (lv_at hl 0 rfl) ?_
  refine lv_bipush (v := 16) hx hb dX1_init_5 (by decide) ?_
  obtain ⟨t1, e_t1, h⟩ := bd_elim h
  obtain ⟨m2, e_m2, h⟩ := bd_elim h
  refine m_newJ (N := 16) hx hb (hC.2.2.2.2 _ wa_long) hG.1 hM (by decide) (by decide) (by decide) (by decide) (by decide) dX1_init_7 (fun H hM => ?_)
  rw [← e_t1]
  rw [← e_m2] at hM
  obtain ⟨m3, e_m3, h⟩ := bn h
  refine m_putF (T := TX1) hC inW1 tyX1 tyX1_ok nmX1 hG.1 hM 0 e_m3 (by decide) rfl rfl (by decide) rfl flc_X1_9 rfl rfl hin rfl (tyX1_ok 0 (by decide)) (nr_arr _) dX1_init_9 (fun H locs hM => ?_)
  refine lr_aload_n hx hb dX1_init_12 rfl (lv_at hl 0 rfl) ?_
  refine lv_bipush (v := 16) hx hb dX1_init_13 (by decide) ?_
  obtain ⟨t4, e_t4, h⟩ := bd_elim h
  obtain ⟨m5, e_m5, h⟩ := bd_elim h
  refine m_newJ (N := 16) hx hb (hC.2.2.2.2 _ wa_long) hG.1 hM (by decide) (by decide) (by decide) (by decide) (by decide) dX1_init_15 (fun H hM => ?_)
  rw [← e_t4]
  rw [← e_m5] at hM
  obtain ⟨m6, e_m6, h⟩ := bn h
  refine m_putF (T := TX1) hC inW1 tyX1 tyX1_ok nmX1 hG.1 hM 1 e_m6 (by decide) rfl rfl (by decide) rfl flc_X1_15 rfl rfl hin rfl (tyX1_ok 1 (by decide)) (nr_arr _) dX1_init_17 (fun H locs hM => ?_)
  refine lr_aload_n hx hb dX1_init_20 rfl (lv_at hl 0 rfl) ?_
  refine lv_bipush (v := 16) hx hb dX1_init_21 (by decide) ?_
  obtain ⟨t7, e_t7, h⟩ := bd_elim h
  obtain ⟨m8, e_m8, h⟩ := bd_elim h
  refine m_newI (atype := .int) (N := 16) 11 1 (by decide) hx hb (hC.2.2.2.2 _ wa_int) hG.1 rfl (fun h => h) rfl hM (by decide) (by decide) (by decide) (by decide) (by decide) dX1_init_23 (fun H hM => ?_)
  rw [← e_t7]
  rw [← e_m8] at hM
  obtain ⟨m9, e_m9, h⟩ := bn h
  refine m_putF (T := TX1) hC inW1 tyX1 tyX1_ok nmX1 hG.1 hM 2 e_m9 (by decide) rfl rfl (by decide) rfl flc_X1_18 rfl rfl hin rfl (tyX1_ok 2 (by decide)) (nr_arr _) dX1_init_25 (fun H locs hM => ?_)
  refine lr_aload_n hx hb dX1_init_28 rfl (lv_at hl 0 rfl) ?_
  refine lv_iconst (v := 4) hx hb dX1_init_29 (by decide) ?_
  obtain ⟨t10, e_t10, h⟩ := bd_elim h
  obtain ⟨m11, e_m11, h⟩ := bd_elim h
  refine m_newI (atype := .int) (N := 4) 11 1 (by decide) hx hb (hC.2.2.2.2 _ wa_int) hG.1 rfl (fun h => h) rfl hM (by decide) (by decide) (by decide) (by decide) (by decide) dX1_init_30 (fun H hM => ?_)
  rw [← e_t10]
  rw [← e_m11] at hM
  obtain ⟨m12, e_m12, h⟩ := bn h
  refine m_putF (T := TX1) hC inW1 tyX1 tyX1_ok nmX1 hG.1 hM 3 e_m12 (by decide) rfl rfl (by decide) rfl flc_X1_22 rfl rfl hin rfl (tyX1_ok 3 (by decide)) (nr_arr _) dX1_init_32 (fun H locs hM => ?_)
  refine lr_aload_n hx hb dX1_init_35 rfl (lv_at hl 0 rfl) ?_
  obtain ⟨k13, e_k13, h⟩ := bn h
  obtain ⟨m14, e_m14, h⟩ := bn h
  by_cases c15 : gN m14 = gN m12
  case neg => rw [if_neg c15] at h; cases h
  rw [if_pos c15] at h
  refine callV_Vc ⟨by decide, by decide⟩ e_k13 (by decide) rfl mlv_X1_25 wiv_X1_forget wsv_X1_forget rfl wni_X1 wcv_X1_forget hdv_X1_forget hC hG.1 hM (cX1_forget_ok e_m14) c15 ⟨by decide, by decide⟩ hl.1 (by first | exact Nat.le_of_ble_eq_true rfl | simp [va_cat, vcI, vcL, vcR]) dX1_init_36 (fun H locs hM => ?_)
  obtain rfl := Option.some.inj h
  exact Kr _ _ _ _ dX1_init_39 hM
theorem cX1_init_ok {l : Launch} {D : va_G} {cy : Nat → ClassId} {z0 : Nat} {A : Nat → Prop} {o0 : Nat} {σ σ' : Mem} (h : fX1_init o0 σ = some σ') : CtN l yX1_init cX1_init 1 1 4 52 [.ref (adz z0 o0)] D cy z0 A σ σ' :=
  enterN (own := RX1) (by decide) rfl rfl (Nat.le_of_ble_eq_true rfl) (fun p e s m below meth c Q ls hC hG hM hin Kr hl => wX1_init hC hG hin Kr _ _ _ _ _ h hM hl)
theorem wol_X2_3 : Cond.methodLink RX2 3 objectInit ∈ WALL := WALL_of (by decide +kernel) (by decide +kernel)
theorem wcl_X2_9 : Cond.classLink RX2 9 RX0 ∈ WALL := WALL_of (by decide +kernel) (by decide +kernel)
theorem flc_X2_11 : Cond.fieldLink RX2 11 "TariffDesk$Plan" "parts" "[LTariffDesk$Part;" ∈ WALL := WALL_of (List.mem_of_getElem? (i := 164) (by decide +kernel)) (by decide +kernel)
theorem mli_X2_17 : Cond.methodLinkNest RX2 17 yX0_init "TariffDesk" ∈ NWL := NW_of (List.mem_of_getElem? (i := 136) (by decide +kernel)) rfl
theorem wci_X0_init : Cond.code yX0_init cX0_init 1 none ∈ WALL := WALL_of (List.mem_of_getElem? (i := 138) (by decide +kernel)) (by decide +kernel)
theorem wii_X0_init : Cond.instanceMethod yX0_init ∈ WALL := WALL_of (List.mem_of_getElem? (i := 137) (by decide +kernel)) (by decide +kernel)
theorem hdi_X0_init : yX0_init.cls ≠ "java/lang/invoke/MethodHandle" ∧ yX0_init.cls ≠ "java/lang/invoke/VarHandle" ∧ (parseMethodDescriptor yX0_init.desc).map (fun d => d.parameters.length) = some 0 := by decide +kernel
theorem mlv_X2_18 : Cond.methodLink RX2 18 yX2_clear ∈ WALL := WALL_of (List.mem_of_getElem? (i := 160) (by decide +kernel)) (by decide +kernel)
theorem wcv_X2_clear : Cond.code yX2_clear cX2_clear 1 none ∈ WALL := WALL_of (List.mem_of_getElem? (i := 163) (by decide +kernel)) (by decide +kernel)
theorem wiv_X2_clear : Cond.instanceMethod yX2_clear ∈ WALL := WALL_of (List.mem_of_getElem? (i := 162) (by decide +kernel)) (by decide +kernel)
theorem wsv_X2_clear : Cond.selects RX2 yX2_clear yX2_clear ∈ WALL := WALL_of (List.mem_of_getElem? (i := 0) (by decide +kernel)) (by decide +kernel)
theorem hdv_X2_clear : yX2_clear.cls ≠ "java/lang/invoke/MethodHandle" ∧ yX2_clear.cls ≠ "java/lang/invoke/VarHandle" ∧ (parseMethodDescriptor yX2_clear.desc).map (fun d => d.parameters.length) = some 0 := by decide +kernel
def fX2_init (o0 : Nat) (σ : Mem) : Option Mem :=
  bd (gN σ) fun t1 =>
  bd (al σ 14 4) fun m2 =>
  (pR m2 2 0 (some o0) (some t1)).bind fun m3 =>
  (fR m3 2 0 (some o0)).bind fun t4 =>
  bd (gN m3) fun t5 =>
  bd (al m3 0 0) fun m6 =>
  (fX0_init t5 m6).bind fun m7 =>
  (wR m7 14 0 t4 0 (some t5)).bind fun m8 =>
  (fR m8 2 0 (some o0)).bind fun t9 =>
  bd (gN m8) fun t10 =>
  bd (al m8 0 0) fun m11 =>
  (fX0_init t10 m11).bind fun m12 =>
  (wR m12 14 0 t9 1 (some t10)).bind fun m13 =>
  (fR m13 2 0 (some o0)).bind fun t14 =>
  bd (gN m13) fun t15 =>
  bd (al m13 0 0) fun m16 =>
  (fX0_init t15 m16).bind fun m17 =>
  (wR m17 14 0 t14 2 (some t15)).bind fun m18 =>
  (fR m18 2 0 (some o0)).bind fun t19 =>
  bd (gN m18) fun t20 =>
  bd (al m18 0 0) fun m21 =>
  (fX0_init t20 m21).bind fun m22 =>
  (wR m22 14 0 t19 3 (some t20)).bind fun m23 =>
  (kT m23 2 (some o0)).bind fun k24 =>
  (fX2_clear k24 m23).bind fun m25 =>
  if gN m25 = gN m23 then
  some m25
  else none
set_option maxRecDepth 20000 in
set_option maxHeartbeats 4000000 in
theorem wX2_init {p : Program} {l : Launch} {e : Env} {s : State} {m : MethodId} {args : Array Value} {below : List Frame} {meth : Method} {c : Code} {Q : State → Prop} {D : va_G} {cy : Nat → ClassId} {z0 : Nat} {A : Nat → Prop} {σ' : Mem} (hC : CallFix p m c cX2_init 2 s args WALL RX2) (hG : GC D cy A s) (hin : meth.name = "<init>") (Kr : KrN p l e (rmC 2 13 48) s m args below meth c cX2_init Q D cy z0 A 13 48 σ') (o0 : Nat) (σ : Mem) (H : Heap) (locs : List Loc) (ls : Array Slot) (h : fX2_init o0 σ = some σ') (hM : MC D cy z0 A s.heap σ H locs) (hl : lv_has ls 2 [(0, va_rf (Option.map (adz z0) (some o0)))]) : W p l e (rmC 2 13 48) s m args below meth c H locs 0 0 Q (F0 m 0 ls []) := by
  have hx := hC.1
  have hb := hC.2.1
  unfold fX2_init at h
  refine lr_aload_n hx hb dX2_init_0 rfl (lv_at hl 0 rfl) ?_
  refine W.objInit hx hb hC.2.2.2.1 (hC.2.2.2.2 _ wol_X2_3) (hC.2.2.2.2 _ wo_i) (hC.2.2.2.2 _ wo_c) rfl (hl.1.trans hC.2.2.1.symm) rfl dX2_init_1 (Nat.le_of_ble_eq_true rfl) (Nat.le_of_ble_eq_true rfl) ?_
  refine W.eq (g2 := F0 m 4 ls []) rfl ?_
  refine lr_aload_n hx hb dX2_init_4 rfl (lv_at hl 0 rfl) ?_
  refine lv_iconst (v := 4) hx hb dX2_init_5 (by decide) ?_
  obtain ⟨t1, e_t1, h⟩ := bd_elim h
  obtain ⟨m2, e_m2, h⟩ := bd_elim h
  refine m_anew (N := 4) 14 4 (by decide) hC wcl_X2_9 hG.2.1 hG.1 rfl hM (by decide) (by decide) (by decide) (by decide) (by decide) dX2_init_6 (fun H hM => ?_)
  rw [← e_t1]
  rw [← e_m2] at hM
  obtain ⟨m3, e_m3, h⟩ := bn h
  refine m_putF (T := TX2) hC inW2 tyX2 tyX2_ok nmX2 hG.1 hM 0 e_m3 (by decide) rfl rfl (by decide) rfl flc_X2_11 rfl rfl hin rfl (tyX2_ok 0 (by decide)) (nr_arr _) dX2_init_9 (fun H locs hM => ?_)
  refine lv_iconst (v := 0) hx hb dX2_init_12 (by decide) ?_
  refine lv_istore_n (lv' := [(1, .int 0), (0, va_rf (Option.map (adz z0) (some o0)))]) hx hb dX2_init_13 rfl hl (by decide) (by first | rfl | simp [va_cat]) (fun ls hl => ?_)
  refine lv_iload_n hx hb dX2_init_14 rfl (lv_at hl 0 rfl) ?_
  refine lv_iconst (v := 4) hx hb dX2_init_15 (by decide) ?_
  refine lv_icmp_ge (tgt := 38) hx hb dX2_init_16 (by decide) (fun c0 => absurd c0 (by decide)) (fun c0 => ?_)
  refine lr_aload_n hx hb dX2_init_19 rfl (lv_at hl 1 rfl) ?_
  obtain ⟨t4, e_t4, h⟩ := bn h
  refine g_fR (ref := "TariffDesk$Plan") (T := TX2) hC inW2 hG.1 hM 0 e_t4 (by decide) rfl rfl (by decide) rfl (hC.2.2.2.2 _ flc_X2_11) (fun _ h => h) dX2_init_20 ?_
  refine lv_iload_n hx hb dX2_init_23 rfl (lv_at hl 0 rfl) ?_
  obtain ⟨t5, e_t5, h⟩ := bd_elim h
  obtain ⟨m6, e_m6, h⟩ := bd_elim h
  refine m_newc (T := TX0) hC inW0 tyX0 tyX0_ok wcl_X2_9 wia_0 wni_X0 hG.1 hM (by decide) rfl rfl dv0 (by decide) (by decide) dX2_init_24 (fun H hM => ?_)
  rw [← e_t5]
  rw [← e_m6] at hM
  refine lv_dup hx hb dX2_init_27 (va_cat _) ?_
  obtain ⟨m7, e_m7, h⟩ := bn h
  refine callIN_N (As := []) ⟨by decide, by decide⟩ rfl mli_X2_17 wii_X0_init rfl wni_X0 wci_X0_init hdi_X0_init hC hG hM (cX0_init_ok e_m7) ⟨by decide, by decide⟩ hl.1 (by first | exact Nat.le_of_ble_eq_true rfl | simp [va_cat, vcI, vcL, vcR]) dX2_init_28 rfl (fun H locs hM => ?_)
  obtain ⟨m8, e_m8, h⟩ := bn h
  refine m_aast (t0 := 4) (by decide) hx hb hG.1 rfl (by decide) rfl hM e_m8 dX2_init_31 (fun H locs hM => ?_)
  refine lv_iinc (v := 1) (lv' := [(1, .int 1), (0, va_rf (Option.map (adz z0) (some o0)))]) hx hb dX2_init_32 hl (k := 0) rfl (by decide) (by decide) (by first | rfl | simp [va_cat]) (fun ls hl => ?_)
  refine lv_goto (tgt := 14) hx hb dX2_init_35 (by decide) ?_
  refine lv_iload_n hx hb dX2_init_14 rfl (lv_at hl 0 rfl) ?_
  refine lv_iconst (v := 4) hx hb dX2_init_15 (by decide) ?_
  refine lv_icmp_ge (tgt := 38) hx hb dX2_init_16 (by decide) (fun c0 => absurd c0 (by decide)) (fun c0 => ?_)
  refine lr_aload_n hx hb dX2_init_19 rfl (lv_at hl 1 rfl) ?_
  obtain ⟨t9, e_t9, h⟩ := bn h
  refine g_fR (ref := "TariffDesk$Plan") (T := TX2) hC inW2 hG.1 hM 0 e_t9 (by decide) rfl rfl (by decide) rfl (hC.2.2.2.2 _ flc_X2_11) (fun _ h => h) dX2_init_20 ?_
  refine lv_iload_n hx hb dX2_init_23 rfl (lv_at hl 0 rfl) ?_
  obtain ⟨t10, e_t10, h⟩ := bd_elim h
  obtain ⟨m11, e_m11, h⟩ := bd_elim h
  refine m_newc (T := TX0) hC inW0 tyX0 tyX0_ok wcl_X2_9 wia_0 wni_X0 hG.1 hM (by decide) rfl rfl dv0 (by decide) (by decide) dX2_init_24 (fun H hM => ?_)
  rw [← e_t10]
  rw [← e_m11] at hM
  refine lv_dup hx hb dX2_init_27 (va_cat _) ?_
  obtain ⟨m12, e_m12, h⟩ := bn h
  refine callIN_N (As := []) ⟨by decide, by decide⟩ rfl mli_X2_17 wii_X0_init rfl wni_X0 wci_X0_init hdi_X0_init hC hG hM (cX0_init_ok e_m12) ⟨by decide, by decide⟩ hl.1 (by first | exact Nat.le_of_ble_eq_true rfl | simp [va_cat, vcI, vcL, vcR]) dX2_init_28 rfl (fun H locs hM => ?_)
  obtain ⟨m13, e_m13, h⟩ := bn h
  refine m_aast (t0 := 4) (by decide) hx hb hG.1 rfl (by decide) rfl hM e_m13 dX2_init_31 (fun H locs hM => ?_)
  refine lv_iinc (v := 2) (lv' := [(1, .int 2), (0, va_rf (Option.map (adz z0) (some o0)))]) hx hb dX2_init_32 hl (k := 0) rfl (by decide) (by decide) (by first | rfl | simp [va_cat]) (fun ls hl => ?_)
  refine lv_goto (tgt := 14) hx hb dX2_init_35 (by decide) ?_
  refine lv_iload_n hx hb dX2_init_14 rfl (lv_at hl 0 rfl) ?_
  refine lv_iconst (v := 4) hx hb dX2_init_15 (by decide) ?_
  refine lv_icmp_ge (tgt := 38) hx hb dX2_init_16 (by decide) (fun c0 => absurd c0 (by decide)) (fun c0 => ?_)
  refine lr_aload_n hx hb dX2_init_19 rfl (lv_at hl 1 rfl) ?_
  obtain ⟨t14, e_t14, h⟩ := bn h
  refine g_fR (ref := "TariffDesk$Plan") (T := TX2) hC inW2 hG.1 hM 0 e_t14 (by decide) rfl rfl (by decide) rfl (hC.2.2.2.2 _ flc_X2_11) (fun _ h => h) dX2_init_20 ?_
  refine lv_iload_n hx hb dX2_init_23 rfl (lv_at hl 0 rfl) ?_
  obtain ⟨t15, e_t15, h⟩ := bd_elim h
  obtain ⟨m16, e_m16, h⟩ := bd_elim h
  refine m_newc (T := TX0) hC inW0 tyX0 tyX0_ok wcl_X2_9 wia_0 wni_X0 hG.1 hM (by decide) rfl rfl dv0 (by decide) (by decide) dX2_init_24 (fun H hM => ?_)
  rw [← e_t15]
  rw [← e_m16] at hM
  refine lv_dup hx hb dX2_init_27 (va_cat _) ?_
  obtain ⟨m17, e_m17, h⟩ := bn h
  refine callIN_N (As := []) ⟨by decide, by decide⟩ rfl mli_X2_17 wii_X0_init rfl wni_X0 wci_X0_init hdi_X0_init hC hG hM (cX0_init_ok e_m17) ⟨by decide, by decide⟩ hl.1 (by first | exact Nat.le_of_ble_eq_true rfl | simp [va_cat, vcI, vcL, vcR]) dX2_init_28 rfl (fun H locs hM => ?_)
  obtain ⟨m18, e_m18, h⟩ := bn h
  refine m_aast (t0 := 4) (by decide) hx hb hG.1 rfl (by decide) rfl hM e_m18 dX2_init_31 (fun H locs hM => ?_)
  refine lv_iinc (v := 3) (lv' := [(1, .int 3), (0, va_rf (Option.map (adz z0) (some o0)))]) hx hb dX2_init_32 hl (k := 0) rfl (by decide) (by decide) (by first | rfl | simp [va_cat]) (fun ls hl => ?_)
  refine lv_goto (tgt := 14) hx hb dX2_init_35 (by decide) ?_
  refine lv_iload_n hx hb dX2_init_14 rfl (lv_at hl 0 rfl) ?_
  refine lv_iconst (v := 4) hx hb dX2_init_15 (by decide) ?_
  refine lv_icmp_ge (tgt := 38) hx hb dX2_init_16 (by decide) (fun c0 => absurd c0 (by decide)) (fun c0 => ?_)
  refine lr_aload_n hx hb dX2_init_19 rfl (lv_at hl 1 rfl) ?_
  obtain ⟨t19, e_t19, h⟩ := bn h
  refine g_fR (ref := "TariffDesk$Plan") (T := TX2) hC inW2 hG.1 hM 0 e_t19 (by decide) rfl rfl (by decide) rfl (hC.2.2.2.2 _ flc_X2_11) (fun _ h => h) dX2_init_20 ?_
  refine lv_iload_n hx hb dX2_init_23 rfl (lv_at hl 0 rfl) ?_
  obtain ⟨t20, e_t20, h⟩ := bd_elim h
  obtain ⟨m21, e_m21, h⟩ := bd_elim h
  refine m_newc (T := TX0) hC inW0 tyX0 tyX0_ok wcl_X2_9 wia_0 wni_X0 hG.1 hM (by decide) rfl rfl dv0 (by decide) (by decide) dX2_init_24 (fun H hM => ?_)
  rw [← e_t20]
  rw [← e_m21] at hM
  refine lv_dup hx hb dX2_init_27 (va_cat _) ?_
  obtain ⟨m22, e_m22, h⟩ := bn h
  refine callIN_N (As := []) ⟨by decide, by decide⟩ rfl mli_X2_17 wii_X0_init rfl wni_X0 wci_X0_init hdi_X0_init hC hG hM (cX0_init_ok e_m22) ⟨by decide, by decide⟩ hl.1 (by first | exact Nat.le_of_ble_eq_true rfl | simp [va_cat, vcI, vcL, vcR]) dX2_init_28 rfl (fun H locs hM => ?_)
  obtain ⟨m23, e_m23, h⟩ := bn h
  refine m_aast (t0 := 4) (by decide) hx hb hG.1 rfl (by decide) rfl hM e_m23 dX2_init_31 (fun H locs hM => ?_)
  refine lv_iinc (v := 4) (lv' := [(1, .int 4), (0, va_rf (Option.map (adz z0) (some o0)))]) hx hb dX2_init_32 hl (k := 0) rfl (by decide) (by decide) (by first | rfl | simp [va_cat]) (fun ls hl => ?_)
  refine lv_goto (tgt := 14) hx hb dX2_init_35 (by decide) ?_
  refine lv_iload_n hx hb dX2_init_14 rfl (lv_at hl 0 rfl) ?_
  refine lv_iconst (v := 4) hx hb dX2_init_15 (by decide) ?_
  refine lv_icmp_ge (tgt := 38) hx hb dX2_init_16 (by decide) (fun c0 => ?_) (fun c0 => absurd (by decide) c0)
  refine lr_aload_n hx hb dX2_init_38 rfl (lv_at hl 1 rfl) ?_
  obtain ⟨k24, e_k24, h⟩ := bn h
  obtain ⟨m25, e_m25, h⟩ := bn h
  by_cases c26 : gN m25 = gN m23
  case neg => rw [if_neg c26] at h; cases h
  rw [if_pos c26] at h
  refine callV_Vc ⟨by decide, by decide⟩ e_k24 (by decide) rfl mlv_X2_18 wiv_X2_clear wsv_X2_clear rfl wni_X2 wcv_X2_clear hdv_X2_clear hC hG.1 hM (cX2_clear_ok e_m25) c26 ⟨by decide, by decide⟩ hl.1 (by first | exact Nat.le_of_ble_eq_true rfl | simp [va_cat, vcI, vcL, vcR]) dX2_init_39 (fun H locs hM => ?_)
  obtain rfl := Option.some.inj h
  exact Kr _ _ _ _ dX2_init_42 hM
theorem cX2_init_ok {l : Launch} {D : va_G} {cy : Nat → ClassId} {z0 : Nat} {A : Nat → Prop} {o0 : Nat} {σ σ' : Mem} (h : fX2_init o0 σ = some σ') : CtN l yX2_init cX2_init 2 2 13 48 [.ref (adz z0 o0)] D cy z0 A σ σ' :=
  enterN (own := RX2) (by decide) rfl rfl (Nat.le_of_ble_eq_true rfl) (fun p e s m below meth c Q ls hC hG hM hin Kr hl => wX2_init hC hG hin Kr _ _ _ _ _ h hM hl)
theorem wol_X3_3 : Cond.methodLink RX3 3 objectInit ∈ WALL := WALL_of (by decide +kernel) (by decide +kernel)
theorem wcl_X3_9 : Cond.classLink RX3 9 RX2 ∈ WALL := WALL_of (by decide +kernel) (by decide +kernel)
theorem flc_X3_11 : Cond.fieldLink RX3 11 "TariffDesk$PlanBook" "entries" "[LTariffDesk$Plan;" ∈ WALL := WALL_of (List.mem_of_getElem? (i := 204) (by decide +kernel)) (by decide +kernel)
theorem mli_X3_17 : Cond.methodLinkNest RX3 17 yX2_init "TariffDesk" ∈ NWL := NW_of (List.mem_of_getElem? (i := 129) (by decide +kernel)) rfl
theorem wci_X2_init : Cond.code yX2_init cX2_init 2 none ∈ WALL := WALL_of (List.mem_of_getElem? (i := 131) (by decide +kernel)) (by decide +kernel)
theorem wii_X2_init : Cond.instanceMethod yX2_init ∈ WALL := WALL_of (List.mem_of_getElem? (i := 130) (by decide +kernel)) (by decide +kernel)
theorem hdi_X2_init : yX2_init.cls ≠ "java/lang/invoke/MethodHandle" ∧ yX2_init.cls ≠ "java/lang/invoke/VarHandle" ∧ (parseMethodDescriptor yX2_init.desc).map (fun d => d.parameters.length) = some 0 := by decide +kernel
def fX3_init (o0 : Nat) (σ : Mem) : Option Mem :=
  bd (gN σ) fun t1 =>
  bd (al σ 15 10) fun m2 =>
  (pR m2 3 0 (some o0) (some t1)).bind fun m3 =>
  (fR m3 3 0 (some o0)).bind fun t4 =>
  bd (gN m3) fun t5 =>
  bd (al m3 2 0) fun m6 =>
  (fX2_init t5 m6).bind fun m7 =>
  (wR m7 15 2 t4 0 (some t5)).bind fun m8 =>
  (fR m8 3 0 (some o0)).bind fun t9 =>
  bd (gN m8) fun t10 =>
  bd (al m8 2 0) fun m11 =>
  (fX2_init t10 m11).bind fun m12 =>
  (wR m12 15 2 t9 1 (some t10)).bind fun m13 =>
  (fR m13 3 0 (some o0)).bind fun t14 =>
  bd (gN m13) fun t15 =>
  bd (al m13 2 0) fun m16 =>
  (fX2_init t15 m16).bind fun m17 =>
  (wR m17 15 2 t14 2 (some t15)).bind fun m18 =>
  (fR m18 3 0 (some o0)).bind fun t19 =>
  bd (gN m18) fun t20 =>
  bd (al m18 2 0) fun m21 =>
  (fX2_init t20 m21).bind fun m22 =>
  (wR m22 15 2 t19 3 (some t20)).bind fun m23 =>
  (fR m23 3 0 (some o0)).bind fun t24 =>
  bd (gN m23) fun t25 =>
  bd (al m23 2 0) fun m26 =>
  (fX2_init t25 m26).bind fun m27 =>
  (wR m27 15 2 t24 4 (some t25)).bind fun m28 =>
  (fR m28 3 0 (some o0)).bind fun t29 =>
  bd (gN m28) fun t30 =>
  bd (al m28 2 0) fun m31 =>
  (fX2_init t30 m31).bind fun m32 =>
  (wR m32 15 2 t29 5 (some t30)).bind fun m33 =>
  (fR m33 3 0 (some o0)).bind fun t34 =>
  bd (gN m33) fun t35 =>
  bd (al m33 2 0) fun m36 =>
  (fX2_init t35 m36).bind fun m37 =>
  (wR m37 15 2 t34 6 (some t35)).bind fun m38 =>
  (fR m38 3 0 (some o0)).bind fun t39 =>
  bd (gN m38) fun t40 =>
  bd (al m38 2 0) fun m41 =>
  (fX2_init t40 m41).bind fun m42 =>
  (wR m42 15 2 t39 7 (some t40)).bind fun m43 =>
  (fR m43 3 0 (some o0)).bind fun t44 =>
  bd (gN m43) fun t45 =>
  bd (al m43 2 0) fun m46 =>
  (fX2_init t45 m46).bind fun m47 =>
  (wR m47 15 2 t44 8 (some t45)).bind fun m48 =>
  (fR m48 3 0 (some o0)).bind fun t49 =>
  bd (gN m48) fun t50 =>
  bd (al m48 2 0) fun m51 =>
  (fX2_init t50 m51).bind fun m52 =>
  (wR m52 15 2 t49 9 (some t50)).bind fun m53 =>
  some m53
set_option maxRecDepth 20000 in
set_option maxHeartbeats 4000000 in
theorem wX3_init {p : Program} {l : Launch} {e : Env} {s : State} {m : MethodId} {args : Array Value} {below : List Frame} {meth : Method} {c : Code} {Q : State → Prop} {D : va_G} {cy : Nat → ClassId} {z0 : Nat} {A : Nat → Prop} {σ' : Mem} (hC : CallFix p m c cX3_init 2 s args WALL RX3) (hG : GC D cy A s) (hin : meth.name = "<init>") (Kr : KrN p l e (rmC 3 141 570) s m args below meth c cX3_init Q D cy z0 A 141 570 σ') (o0 : Nat) (σ : Mem) (H : Heap) (locs : List Loc) (ls : Array Slot) (h : fX3_init o0 σ = some σ') (hM : MC D cy z0 A s.heap σ H locs) (hl : lv_has ls 2 [(0, va_rf (Option.map (adz z0) (some o0)))]) : W p l e (rmC 3 141 570) s m args below meth c H locs 0 0 Q (F0 m 0 ls []) := by
  have hx := hC.1
  have hb := hC.2.1
  unfold fX3_init at h
  refine lr_aload_n hx hb dX3_init_0 rfl (lv_at hl 0 rfl) ?_
  refine W.objInit hx hb hC.2.2.2.1 (hC.2.2.2.2 _ wol_X3_3) (hC.2.2.2.2 _ wo_i) (hC.2.2.2.2 _ wo_c) rfl (hl.1.trans hC.2.2.1.symm) rfl dX3_init_1 (Nat.le_of_ble_eq_true rfl) (Nat.le_of_ble_eq_true rfl) ?_
  refine W.eq (g2 := F0 m 4 ls []) rfl ?_
  refine lr_aload_n hx hb dX3_init_4 rfl (lv_at hl 0 rfl) ?_
  refine lv_bipush (v := 10) hx hb dX3_init_5 (by decide) ?_
  obtain ⟨t1, e_t1, h⟩ := bd_elim h
  obtain ⟨m2, e_m2, h⟩ := bd_elim h
  refine m_anew (N := 10) 15 5 (by decide) hC wcl_X3_9 hG.2.2 hG.1 rfl hM (by decide) (by decide) (by decide) (by decide) (by decide) dX3_init_7 (fun H hM => ?_)
  rw [← e_t1]
  rw [← e_m2] at hM
  obtain ⟨m3, e_m3, h⟩ := bn h
  refine m_putF (T := TX3) hC inW3 tyX3 tyX3_ok nmX3 hG.1 hM 0 e_m3 (by decide) rfl rfl (by decide) rfl flc_X3_11 rfl rfl hin rfl (tyX3_ok 0 (by decide)) (nr_arr _) dX3_init_10 (fun H locs hM => ?_)
  refine lv_iconst (v := 0) hx hb dX3_init_13 (by decide) ?_
  refine lv_istore_n (lv' := [(1, .int 0), (0, va_rf (Option.map (adz z0) (some o0)))]) hx hb dX3_init_14 rfl hl (by decide) (by first | rfl | simp [va_cat]) (fun ls hl => ?_)
  refine lv_iload_n hx hb dX3_init_15 rfl (lv_at hl 0 rfl) ?_
  refine lv_bipush (v := 10) hx hb dX3_init_16 (by decide) ?_
  refine lv_icmp_ge (tgt := 40) hx hb dX3_init_18 (by decide) (fun c0 => absurd c0 (by decide)) (fun c0 => ?_)
  refine lr_aload_n hx hb dX3_init_21 rfl (lv_at hl 1 rfl) ?_
  obtain ⟨t4, e_t4, h⟩ := bn h
  refine g_fR (ref := "TariffDesk$PlanBook") (T := TX3) hC inW3 hG.1 hM 0 e_t4 (by decide) rfl rfl (by decide) rfl (hC.2.2.2.2 _ flc_X3_11) (fun _ h => h) dX3_init_22 ?_
  refine lv_iload_n hx hb dX3_init_25 rfl (lv_at hl 0 rfl) ?_
  obtain ⟨t5, e_t5, h⟩ := bd_elim h
  obtain ⟨m6, e_m6, h⟩ := bd_elim h
  refine m_newc (T := TX2) hC inW2 tyX2 tyX2_ok wcl_X3_9 wia_2 wni_X2 hG.1 hM (by decide) rfl rfl dv2 (by decide) (by decide) dX3_init_26 (fun H hM => ?_)
  rw [← e_t5]
  rw [← e_m6] at hM
  refine lv_dup hx hb dX3_init_29 (va_cat _) ?_
  obtain ⟨m7, e_m7, h⟩ := bn h
  refine callIN_N (As := []) ⟨by decide, by decide⟩ rfl mli_X3_17 wii_X2_init rfl wni_X2 wci_X2_init hdi_X2_init hC hG hM (cX2_init_ok e_m7) ⟨by decide, by decide⟩ hl.1 (by first | exact Nat.le_of_ble_eq_true rfl | simp [va_cat, vcI, vcL, vcR]) dX3_init_30 rfl (fun H locs hM => ?_)
  obtain ⟨m8, e_m8, h⟩ := bn h
  refine m_aast (t0 := 5) (by decide) hx hb hG.1 rfl (by decide) rfl hM e_m8 dX3_init_33 (fun H locs hM => ?_)
  refine lv_iinc (v := 1) (lv' := [(1, .int 1), (0, va_rf (Option.map (adz z0) (some o0)))]) hx hb dX3_init_34 hl (k := 0) rfl (by decide) (by decide) (by first | rfl | simp [va_cat]) (fun ls hl => ?_)
  refine lv_goto (tgt := 15) hx hb dX3_init_37 (by decide) ?_
  refine lv_iload_n hx hb dX3_init_15 rfl (lv_at hl 0 rfl) ?_
  refine lv_bipush (v := 10) hx hb dX3_init_16 (by decide) ?_
  refine lv_icmp_ge (tgt := 40) hx hb dX3_init_18 (by decide) (fun c0 => absurd c0 (by decide)) (fun c0 => ?_)
  refine lr_aload_n hx hb dX3_init_21 rfl (lv_at hl 1 rfl) ?_
  obtain ⟨t9, e_t9, h⟩ := bn h
  refine g_fR (ref := "TariffDesk$PlanBook") (T := TX3) hC inW3 hG.1 hM 0 e_t9 (by decide) rfl rfl (by decide) rfl (hC.2.2.2.2 _ flc_X3_11) (fun _ h => h) dX3_init_22 ?_
  refine lv_iload_n hx hb dX3_init_25 rfl (lv_at hl 0 rfl) ?_
  obtain ⟨t10, e_t10, h⟩ := bd_elim h
  obtain ⟨m11, e_m11, h⟩ := bd_elim h
  refine m_newc (T := TX2) hC inW2 tyX2 tyX2_ok wcl_X3_9 wia_2 wni_X2 hG.1 hM (by decide) rfl rfl dv2 (by decide) (by decide) dX3_init_26 (fun H hM => ?_)
  rw [← e_t10]
  rw [← e_m11] at hM
  refine lv_dup hx hb dX3_init_29 (va_cat _) ?_
  obtain ⟨m12, e_m12, h⟩ := bn h
  refine callIN_N (As := []) ⟨by decide, by decide⟩ rfl mli_X3_17 wii_X2_init rfl wni_X2 wci_X2_init hdi_X2_init hC hG hM (cX2_init_ok e_m12) ⟨by decide, by decide⟩ hl.1 (by first | exact Nat.le_of_ble_eq_true rfl | simp [va_cat, vcI, vcL, vcR]) dX3_init_30 rfl (fun H locs hM => ?_)
  obtain ⟨m13, e_m13, h⟩ := bn h
  refine m_aast (t0 := 5) (by decide) hx hb hG.1 rfl (by decide) rfl hM e_m13 dX3_init_33 (fun H locs hM => ?_)
  refine lv_iinc (v := 2) (lv' := [(1, .int 2), (0, va_rf (Option.map (adz z0) (some o0)))]) hx hb dX3_init_34 hl (k := 0) rfl (by decide) (by decide) (by first | rfl | simp [va_cat]) (fun ls hl => ?_)
  refine lv_goto (tgt := 15) hx hb dX3_init_37 (by decide) ?_
  refine lv_iload_n hx hb dX3_init_15 rfl (lv_at hl 0 rfl) ?_
  refine lv_bipush (v := 10) hx hb dX3_init_16 (by decide) ?_
  refine lv_icmp_ge (tgt := 40) hx hb dX3_init_18 (by decide) (fun c0 => absurd c0 (by decide)) (fun c0 => ?_)
  refine lr_aload_n hx hb dX3_init_21 rfl (lv_at hl 1 rfl) ?_
  obtain ⟨t14, e_t14, h⟩ := bn h
  refine g_fR (ref := "TariffDesk$PlanBook") (T := TX3) hC inW3 hG.1 hM 0 e_t14 (by decide) rfl rfl (by decide) rfl (hC.2.2.2.2 _ flc_X3_11) (fun _ h => h) dX3_init_22 ?_
  refine lv_iload_n hx hb dX3_init_25 rfl (lv_at hl 0 rfl) ?_
  obtain ⟨t15, e_t15, h⟩ := bd_elim h
  obtain ⟨m16, e_m16, h⟩ := bd_elim h
  refine m_newc (T := TX2) hC inW2 tyX2 tyX2_ok wcl_X3_9 wia_2 wni_X2 hG.1 hM (by decide) rfl rfl dv2 (by decide) (by decide) dX3_init_26 (fun H hM => ?_)
  rw [← e_t15]
  rw [← e_m16] at hM
  refine lv_dup hx hb dX3_init_29 (va_cat _) ?_
  obtain ⟨m17, e_m17, h⟩ := bn h
  refine callIN_N (As := []) ⟨by decide, by decide⟩ rfl mli_X3_17 wii_X2_init rfl wni_X2 wci_X2_init hdi_X2_init hC hG hM (cX2_init_ok e_m17) ⟨by decide, by decide⟩ hl.1 (by first | exact Nat.le_of_ble_eq_true rfl | simp [va_cat, vcI, vcL, vcR]) dX3_init_30 rfl (fun H locs hM => ?_)
  obtain ⟨m18, e_m18, h⟩ := bn h
  refine m_aast (t0 := 5) (by decide) hx hb hG.1 rfl (by decide) rfl hM e_m18 dX3_init_33 (fun H locs hM => ?_)
  refine lv_iinc (v := 3) (lv' := [(1, .int 3), (0, va_rf (Option.map (adz z0) (some o0)))]) hx hb dX3_init_34 hl (k := 0) rfl (by decide) (by decide) (by first | rfl | simp [va_cat]) (fun ls hl => ?_)
  refine lv_goto (tgt := 15) hx hb dX3_init_37 (by decide) ?_
  refine lv_iload_n hx hb dX3_init_15 rfl (lv_at hl 0 rfl) ?_
  refine lv_bipush (v := 10) hx hb dX3_init_16 (by decide) ?_
  refine lv_icmp_ge (tgt := 40) hx hb dX3_init_18 (by decide) (fun c0 => absurd c0 (by decide)) (fun c0 => ?_)
  refine lr_aload_n hx hb dX3_init_21 rfl (lv_at hl 1 rfl) ?_
  obtain ⟨t19, e_t19, h⟩ := bn h
  refine g_fR (ref := "TariffDesk$PlanBook") (T := TX3) hC inW3 hG.1 hM 0 e_t19 (by decide) rfl rfl (by decide) rfl (hC.2.2.2.2 _ flc_X3_11) (fun _ h => h) dX3_init_22 ?_
  refine lv_iload_n hx hb dX3_init_25 rfl (lv_at hl 0 rfl) ?_
  obtain ⟨t20, e_t20, h⟩ := bd_elim h
  obtain ⟨m21, e_m21, h⟩ := bd_elim h
  refine m_newc (T := TX2) hC inW2 tyX2 tyX2_ok wcl_X3_9 wia_2 wni_X2 hG.1 hM (by decide) rfl rfl dv2 (by decide) (by decide) dX3_init_26 (fun H hM => ?_)
  rw [← e_t20]
  rw [← e_m21] at hM
  refine lv_dup hx hb dX3_init_29 (va_cat _) ?_
  obtain ⟨m22, e_m22, h⟩ := bn h
  refine callIN_N (As := []) ⟨by decide, by decide⟩ rfl mli_X3_17 wii_X2_init rfl wni_X2 wci_X2_init hdi_X2_init hC hG hM (cX2_init_ok e_m22) ⟨by decide, by decide⟩ hl.1 (by first | exact Nat.le_of_ble_eq_true rfl | simp [va_cat, vcI, vcL, vcR]) dX3_init_30 rfl (fun H locs hM => ?_)
  obtain ⟨m23, e_m23, h⟩ := bn h
  refine m_aast (t0 := 5) (by decide) hx hb hG.1 rfl (by decide) rfl hM e_m23 dX3_init_33 (fun H locs hM => ?_)
  refine lv_iinc (v := 4) (lv' := [(1, .int 4), (0, va_rf (Option.map (adz z0) (some o0)))]) hx hb dX3_init_34 hl (k := 0) rfl (by decide) (by decide) (by first | rfl | simp [va_cat]) (fun ls hl => ?_)
  refine lv_goto (tgt := 15) hx hb dX3_init_37 (by decide) ?_
  refine lv_iload_n hx hb dX3_init_15 rfl (lv_at hl 0 rfl) ?_
  refine lv_bipush (v := 10) hx hb dX3_init_16 (by decide) ?_
  refine lv_icmp_ge (tgt := 40) hx hb dX3_init_18 (by decide) (fun c0 => absurd c0 (by decide)) (fun c0 => ?_)
  refine lr_aload_n hx hb dX3_init_21 rfl (lv_at hl 1 rfl) ?_
  obtain ⟨t24, e_t24, h⟩ := bn h
  refine g_fR (ref := "TariffDesk$PlanBook") (T := TX3) hC inW3 hG.1 hM 0 e_t24 (by decide) rfl rfl (by decide) rfl (hC.2.2.2.2 _ flc_X3_11) (fun _ h => h) dX3_init_22 ?_
  refine lv_iload_n hx hb dX3_init_25 rfl (lv_at hl 0 rfl) ?_
  obtain ⟨t25, e_t25, h⟩ := bd_elim h
  obtain ⟨m26, e_m26, h⟩ := bd_elim h
  refine m_newc (T := TX2) hC inW2 tyX2 tyX2_ok wcl_X3_9 wia_2 wni_X2 hG.1 hM (by decide) rfl rfl dv2 (by decide) (by decide) dX3_init_26 (fun H hM => ?_)
  rw [← e_t25]
  rw [← e_m26] at hM
  refine lv_dup hx hb dX3_init_29 (va_cat _) ?_
  obtain ⟨m27, e_m27, h⟩ := bn h
  refine callIN_N (As := []) ⟨by decide, by decide⟩ rfl mli_X3_17 wii_X2_init rfl wni_X2 wci_X2_init hdi_X2_init hC hG hM (cX2_init_ok e_m27) ⟨by decide, by decide⟩ hl.1 (by first | exact Nat.le_of_ble_eq_true rfl | simp [va_cat, vcI, vcL, vcR]) dX3_init_30 rfl (fun H locs hM => ?_)
  obtain ⟨m28, e_m28, h⟩ := bn h
  refine m_aast (t0 := 5) (by decide) hx hb hG.1 rfl (by decide) rfl hM e_m28 dX3_init_33 (fun H locs hM => ?_)
  refine lv_iinc (v := 5) (lv' := [(1, .int 5), (0, va_rf (Option.map (adz z0) (some o0)))]) hx hb dX3_init_34 hl (k := 0) rfl (by decide) (by decide) (by first | rfl | simp [va_cat]) (fun ls hl => ?_)
  refine lv_goto (tgt := 15) hx hb dX3_init_37 (by decide) ?_
  refine lv_iload_n hx hb dX3_init_15 rfl (lv_at hl 0 rfl) ?_
  refine lv_bipush (v := 10) hx hb dX3_init_16 (by decide) ?_
  refine lv_icmp_ge (tgt := 40) hx hb dX3_init_18 (by decide) (fun c0 => absurd c0 (by decide)) (fun c0 => ?_)
  refine lr_aload_n hx hb dX3_init_21 rfl (lv_at hl 1 rfl) ?_
  obtain ⟨t29, e_t29, h⟩ := bn h
  refine g_fR (ref := "TariffDesk$PlanBook") (T := TX3) hC inW3 hG.1 hM 0 e_t29 (by decide) rfl rfl (by decide) rfl (hC.2.2.2.2 _ flc_X3_11) (fun _ h => h) dX3_init_22 ?_
  refine lv_iload_n hx hb dX3_init_25 rfl (lv_at hl 0 rfl) ?_
  obtain ⟨t30, e_t30, h⟩ := bd_elim h
  obtain ⟨m31, e_m31, h⟩ := bd_elim h
  refine m_newc (T := TX2) hC inW2 tyX2 tyX2_ok wcl_X3_9 wia_2 wni_X2 hG.1 hM (by decide) rfl rfl dv2 (by decide) (by decide) dX3_init_26 (fun H hM => ?_)
  rw [← e_t30]
  rw [← e_m31] at hM
  refine lv_dup hx hb dX3_init_29 (va_cat _) ?_
  obtain ⟨m32, e_m32, h⟩ := bn h
  refine callIN_N (As := []) ⟨by decide, by decide⟩ rfl mli_X3_17 wii_X2_init rfl wni_X2 wci_X2_init hdi_X2_init hC hG hM (cX2_init_ok e_m32) ⟨by decide, by decide⟩ hl.1 (by first | exact Nat.le_of_ble_eq_true rfl | simp [va_cat, vcI, vcL, vcR]) dX3_init_30 rfl (fun H locs hM => ?_)
  obtain ⟨m33, e_m33, h⟩ := bn h
  refine m_aast (t0 := 5) (by decide) hx hb hG.1 rfl (by decide) rfl hM e_m33 dX3_init_33 (fun H locs hM => ?_)
  refine lv_iinc (v := 6) (lv' := [(1, .int 6), (0, va_rf (Option.map (adz z0) (some o0)))]) hx hb dX3_init_34 hl (k := 0) rfl (by decide) (by decide) (by first | rfl | simp [va_cat]) (fun ls hl => ?_)
  refine lv_goto (tgt := 15) hx hb dX3_init_37 (by decide) ?_
  refine lv_iload_n hx hb dX3_init_15 rfl (lv_at hl 0 rfl) ?_
  refine lv_bipush (v := 10) hx hb dX3_init_16 (by decide) ?_
  refine lv_icmp_ge (tgt := 40) hx hb dX3_init_18 (by decide) (fun c0 => absurd c0 (by decide)) (fun c0 => ?_)
  refine lr_aload_n hx hb dX3_init_21 rfl (lv_at hl 1 rfl) ?_
  obtain ⟨t34, e_t34, h⟩ := bn h
  refine g_fR (ref := "TariffDesk$PlanBook") (T := TX3) hC inW3 hG.1 hM 0 e_t34 (by decide) rfl rfl (by decide) rfl (hC.2.2.2.2 _ flc_X3_11) (fun _ h => h) dX3_init_22 ?_
  refine lv_iload_n hx hb dX3_init_25 rfl (lv_at hl 0 rfl) ?_
  obtain ⟨t35, e_t35, h⟩ := bd_elim h
  obtain ⟨m36, e_m36, h⟩ := bd_elim h
  refine m_newc (T := TX2) hC inW2 tyX2 tyX2_ok wcl_X3_9 wia_2 wni_X2 hG.1 hM (by decide) rfl rfl dv2 (by decide) (by decide) dX3_init_26 (fun H hM => ?_)
  rw [← e_t35]
  rw [← e_m36] at hM
  refine lv_dup hx hb dX3_init_29 (va_cat _) ?_
  obtain ⟨m37, e_m37, h⟩ := bn h
  refine callIN_N (As := []) ⟨by decide, by decide⟩ rfl mli_X3_17 wii_X2_init rfl wni_X2 wci_X2_init hdi_X2_init hC hG hM (cX2_init_ok e_m37) ⟨by decide, by decide⟩ hl.1 (by first | exact Nat.le_of_ble_eq_true rfl | simp [va_cat, vcI, vcL, vcR]) dX3_init_30 rfl (fun H locs hM => ?_)
  obtain ⟨m38, e_m38, h⟩ := bn h
  refine m_aast (t0 := 5) (by decide) hx hb hG.1 rfl (by decide) rfl hM e_m38 dX3_init_33 (fun H locs hM => ?_)
  refine lv_iinc (v := 7) (lv' := [(1, .int 7), (0, va_rf (Option.map (adz z0) (some o0)))]) hx hb dX3_init_34 hl (k := 0) rfl (by decide) (by decide) (by first | rfl | simp [va_cat]) (fun ls hl => ?_)
  refine lv_goto (tgt := 15) hx hb dX3_init_37 (by decide) ?_
  refine lv_iload_n hx hb dX3_init_15 rfl (lv_at hl 0 rfl) ?_
  refine lv_bipush (v := 10) hx hb dX3_init_16 (by decide) ?_
  refine lv_icmp_ge (tgt := 40) hx hb dX3_init_18 (by decide) (fun c0 => absurd c0 (by decide)) (fun c0 => ?_)
  refine lr_aload_n hx hb dX3_init_21 rfl (lv_at hl 1 rfl) ?_
  obtain ⟨t39, e_t39, h⟩ := bn h
  refine g_fR (ref := "TariffDesk$PlanBook") (T := TX3) hC inW3 hG.1 hM 0 e_t39 (by decide) rfl rfl (by decide) rfl (hC.2.2.2.2 _ flc_X3_11) (fun _ h => h) dX3_init_22 ?_
  refine lv_iload_n hx hb dX3_init_25 rfl (lv_at hl 0 rfl) ?_
  obtain ⟨t40, e_t40, h⟩ := bd_elim h
  obtain ⟨m41, e_m41, h⟩ := bd_elim h
  refine m_newc (T := TX2) hC inW2 tyX2 tyX2_ok wcl_X3_9 wia_2 wni_X2 hG.1 hM (by decide) rfl rfl dv2 (by decide) (by decide) dX3_init_26 (fun H hM => ?_)
  rw [← e_t40]
  rw [← e_m41] at hM
  refine lv_dup hx hb dX3_init_29 (va_cat _) ?_
  obtain ⟨m42, e_m42, h⟩ := bn h
  refine callIN_N (As := []) ⟨by decide, by decide⟩ rfl mli_X3_17 wii_X2_init rfl wni_X2 wci_X2_init hdi_X2_init hC hG hM (cX2_init_ok e_m42) ⟨by decide, by decide⟩ hl.1 (by first | exact Nat.le_of_ble_eq_true rfl | simp [va_cat, vcI, vcL, vcR]) dX3_init_30 rfl (fun H locs hM => ?_)
  obtain ⟨m43, e_m43, h⟩ := bn h
  refine m_aast (t0 := 5) (by decide) hx hb hG.1 rfl (by decide) rfl hM e_m43 dX3_init_33 (fun H locs hM => ?_)
  refine lv_iinc (v := 8) (lv' := [(1, .int 8), (0, va_rf (Option.map (adz z0) (some o0)))]) hx hb dX3_init_34 hl (k := 0) rfl (by decide) (by decide) (by first | rfl | simp [va_cat]) (fun ls hl => ?_)
  refine lv_goto (tgt := 15) hx hb dX3_init_37 (by decide) ?_
  refine lv_iload_n hx hb dX3_init_15 rfl (lv_at hl 0 rfl) ?_
  refine lv_bipush (v := 10) hx hb dX3_init_16 (by decide) ?_
  refine lv_icmp_ge (tgt := 40) hx hb dX3_init_18 (by decide) (fun c0 => absurd c0 (by decide)) (fun c0 => ?_)
  refine lr_aload_n hx hb dX3_init_21 rfl (lv_at hl 1 rfl) ?_
  obtain ⟨t44, e_t44, h⟩ := bn h
  refine g_fR (ref := "TariffDesk$PlanBook") (T := TX3) hC inW3 hG.1 hM 0 e_t44 (by decide) rfl rfl (by decide) rfl (hC.2.2.2.2 _ flc_X3_11) (fun _ h => h) dX3_init_22 ?_
  refine lv_iload_n hx hb dX3_init_25 rfl (lv_at hl 0 rfl) ?_
  obtain ⟨t45, e_t45, h⟩ := bd_elim h
  obtain ⟨m46, e_m46, h⟩ := bd_elim h
  refine m_newc (T := TX2) hC inW2 tyX2 tyX2_ok wcl_X3_9 wia_2 wni_X2 hG.1 hM (by decide) rfl rfl dv2 (by decide) (by decide) dX3_init_26 (fun H hM => ?_)
  rw [← e_t45]
  rw [← e_m46] at hM
  refine lv_dup hx hb dX3_init_29 (va_cat _) ?_
  obtain ⟨m47, e_m47, h⟩ := bn h
  refine callIN_N (As := []) ⟨by decide, by decide⟩ rfl mli_X3_17 wii_X2_init rfl wni_X2 wci_X2_init hdi_X2_init hC hG hM (cX2_init_ok e_m47) ⟨by decide, by decide⟩ hl.1 (by first | exact Nat.le_of_ble_eq_true rfl | simp [va_cat, vcI, vcL, vcR]) dX3_init_30 rfl (fun H locs hM => ?_)
  obtain ⟨m48, e_m48, h⟩ := bn h
  refine m_aast (t0 := 5) (by decide) hx hb hG.1 rfl (by decide) rfl hM e_m48 dX3_init_33 (fun H locs hM => ?_)
  refine lv_iinc (v := 9) (lv' := [(1, .int 9), (0, va_rf (Option.map (adz z0) (some o0)))]) hx hb dX3_init_34 hl (k := 0) rfl (by decide) (by decide) (by first | rfl | simp [va_cat]) (fun ls hl => ?_)
  refine lv_goto (tgt := 15) hx hb dX3_init_37 (by decide) ?_
  refine lv_iload_n hx hb dX3_init_15 rfl (lv_at hl 0 rfl) ?_
  refine lv_bipush (v := 10) hx hb dX3_init_16 (by decide) ?_
  refine lv_icmp_ge (tgt := 40) hx hb dX3_init_18 (by decide) (fun c0 => absurd c0 (by decide)) (fun c0 => ?_)
  refine lr_aload_n hx hb dX3_init_21 rfl (lv_at hl 1 rfl) ?_
  obtain ⟨t49, e_t49, h⟩ := bn h
  refine g_fR (ref := "TariffDesk$PlanBook") (T := TX3) hC inW3 hG.1 hM 0 e_t49 (by decide) rfl rfl (by decide) rfl (hC.2.2.2.2 _ flc_X3_11) (fun _ h => h) dX3_init_22 ?_
  refine lv_iload_n hx hb dX3_init_25 rfl (lv_at hl 0 rfl) ?_
  obtain ⟨t50, e_t50, h⟩ := bd_elim h
  obtain ⟨m51, e_m51, h⟩ := bd_elim h
  refine m_newc (T := TX2) hC inW2 tyX2 tyX2_ok wcl_X3_9 wia_2 wni_X2 hG.1 hM (by decide) rfl rfl dv2 (by decide) (by decide) dX3_init_26 (fun H hM => ?_)
  rw [← e_t50]
  rw [← e_m51] at hM
  refine lv_dup hx hb dX3_init_29 (va_cat _) ?_
  obtain ⟨m52, e_m52, h⟩ := bn h
  refine callIN_N (As := []) ⟨by decide, by decide⟩ rfl mli_X3_17 wii_X2_init rfl wni_X2 wci_X2_init hdi_X2_init hC hG hM (cX2_init_ok e_m52) ⟨by decide, by decide⟩ hl.1 (by first | exact Nat.le_of_ble_eq_true rfl | simp [va_cat, vcI, vcL, vcR]) dX3_init_30 rfl (fun H locs hM => ?_)
  obtain ⟨m53, e_m53, h⟩ := bn h
  refine m_aast (t0 := 5) (by decide) hx hb hG.1 rfl (by decide) rfl hM e_m53 dX3_init_33 (fun H locs hM => ?_)
  refine lv_iinc (v := 10) (lv' := [(1, .int 10), (0, va_rf (Option.map (adz z0) (some o0)))]) hx hb dX3_init_34 hl (k := 0) rfl (by decide) (by decide) (by first | rfl | simp [va_cat]) (fun ls hl => ?_)
  refine lv_goto (tgt := 15) hx hb dX3_init_37 (by decide) ?_
  refine lv_iload_n hx hb dX3_init_15 rfl (lv_at hl 0 rfl) ?_
  refine lv_bipush (v := 10) hx hb dX3_init_16 (by decide) ?_
  refine lv_icmp_ge (tgt := 40) hx hb dX3_init_18 (by decide) (fun c0 => ?_) (fun c0 => absurd (by decide) c0)
  obtain rfl := Option.some.inj h
  exact Kr _ _ _ _ dX3_init_40 hM
theorem cX3_init_ok {l : Launch} {D : va_G} {cy : Nat → ClassId} {z0 : Nat} {A : Nat → Prop} {o0 : Nat} {σ σ' : Mem} (h : fX3_init o0 σ = some σ') : CtN l yX3_init cX3_init 2 3 141 570 [.ref (adz z0 o0)] D cy z0 A σ σ' :=
  enterN (own := RX3) (by decide) rfl rfl (Nat.le_of_ble_eq_true rfl) (fun p e s m below meth c Q ls hC hG hM hin Kr hl => wX3_init hC hG hin Kr _ _ _ _ _ h hM hl)
theorem wol_X4_3 : Cond.methodLink RX4 3 objectInit ∈ WALL := WALL_of (by decide +kernel) (by decide +kernel)
theorem flc_X4_9 : Cond.fieldLink RX4 9 "TariffDesk$PlanReader" "tape" "LTariffDesk$Tape;" ∈ WALL := WALL_of (List.mem_of_getElem? (i := 214) (by decide +kernel)) (by decide +kernel)
theorem wcl_X4_15 : Cond.classLink RX4 15 RX3 ∈ WALL := WALL_of (by decide +kernel) (by decide +kernel)
theorem mli_X4_17 : Cond.methodLinkNest RX4 17 yX3_init "TariffDesk" ∈ NWL := NW_of (List.mem_of_getElem? (i := 122) (by decide +kernel)) rfl
theorem wci_X3_init : Cond.code yX3_init cX3_init 2 none ∈ WALL := WALL_of (List.mem_of_getElem? (i := 124) (by decide +kernel)) (by decide +kernel)
theorem wii_X3_init : Cond.instanceMethod yX3_init ∈ WALL := WALL_of (List.mem_of_getElem? (i := 123) (by decide +kernel)) (by decide +kernel)
theorem hdi_X3_init : yX3_init.cls ≠ "java/lang/invoke/MethodHandle" ∧ yX3_init.cls ≠ "java/lang/invoke/VarHandle" ∧ (parseMethodDescriptor yX3_init.desc).map (fun d => d.parameters.length) = some 0 := by decide +kernel
theorem flc_X4_18 : Cond.fieldLink RX4 18 "TariffDesk$PlanReader" "book" "LTariffDesk$PlanBook;" ∈ WALL := WALL_of (List.mem_of_getElem? (i := 215) (by decide +kernel)) (by decide +kernel)
def fX4_init (o0 : Nat) (x1 : Option Nat) (σ : Mem) : Option Mem :=
  (pR σ 4 0 (some o0) x1).bind fun m1 =>
  bd (gN m1) fun t2 =>
  bd (al m1 3 0) fun m3 =>
  (fX3_init t2 m3).bind fun m4 =>
  (pR m4 4 1 (some o0) (some t2)).bind fun m5 =>
  some m5
set_option maxRecDepth 20000 in
set_option maxHeartbeats 4000000 in
theorem wX4_init {p : Program} {l : Launch} {e : Env} {s : State} {m : MethodId} {args : Array Value} {below : List Frame} {meth : Method} {c : Code} {Q : State → Prop} {D : va_G} {cy : Nat → ClassId} {z0 : Nat} {A : Nat → Prop} {σ' : Mem} (hC : CallFix p m c cX4_init 2 s args WALL RX4) (hG : GC D cy A s) (hin : meth.name = "<init>") (Kr : KrN p l e (rmC 4 142 572) s m args below meth c cX4_init Q D cy z0 A 142 572 σ') (o0 : Nat) (x1 : Option Nat) (σ : Mem) (H : Heap) (locs : List Loc) (ls : Array Slot) (h : fX4_init o0 x1 σ = some σ') (hM : MC D cy z0 A s.heap σ H locs) (hl : lv_has ls 2 [(0, va_rf (Option.map (adz z0) (some o0))), (1, va_rf (Option.map (adz z0) x1))]) : W p l e (rmC 4 142 572) s m args below meth c H locs 0 0 Q (F0 m 0 ls []) := by
  have hx := hC.1
  have hb := hC.2.1
  unfold fX4_init at h
  refine lr_aload_n hx hb dX4_init_0 rfl (lv_at hl 0 rfl) ?_
  refine W.objInit hx hb hC.2.2.2.1 (hC.2.2.2.2 _ wol_X4_3) (hC.2.2.2.2 _ wo_i) (hC.2.2.2.2 _ wo_c) rfl (hl.1.trans hC.2.2.1.symm) rfl dX4_init_1 (Nat.le_of_ble_eq_true rfl) (Nat.le_of_ble_eq_true rfl) ?_
  refine W.eq (g2 := F0 m 4 ls []) rfl ?_
  refine lr_aload_n hx hb dX4_init_4 rfl (lv_at hl 0 rfl) ?_
  refine lr_aload_n hx hb dX4_init_5 rfl (lv_at hl 1 rfl) ?_
  obtain ⟨m1, e_m1, h⟩ := bn h
  refine m_putF (T := TX4) hC inW4 tyX4 tyX4_ok nmX4 hG.1 hM 0 e_m1 (by decide) rfl rfl (by decide) rfl flc_X4_9 rfl rfl hin rfl (tyX4_ok 0 (by decide)) (nr_obj _) dX4_init_6 (fun H locs hM => ?_)
  refine lr_aload_n hx hb dX4_init_9 rfl (lv_at hl 0 rfl) ?_
  obtain ⟨t2, e_t2, h⟩ := bd_elim h
  obtain ⟨m3, e_m3, h⟩ := bd_elim h
  refine m_newc (T := TX3) hC inW3 tyX3 tyX3_ok wcl_X4_15 wia_3 wni_X3 hG.1 hM (by decide) rfl rfl dv3 (by decide) (by decide) dX4_init_10 (fun H hM => ?_)
  rw [← e_t2]
  rw [← e_m3] at hM
  refine lv_dup hx hb dX4_init_13 (va_cat _) ?_
  obtain ⟨m4, e_m4, h⟩ := bn h
  refine callIN_N (As := []) ⟨by decide, by decide⟩ rfl mli_X4_17 wii_X3_init rfl wni_X3 wci_X3_init hdi_X3_init hC hG hM (cX3_init_ok e_m4) ⟨by decide, by decide⟩ hl.1 (by first | exact Nat.le_of_ble_eq_true rfl | simp [va_cat, vcI, vcL, vcR]) dX4_init_14 rfl (fun H locs hM => ?_)
  obtain ⟨m5, e_m5, h⟩ := bn h
  refine g_pR (ref := "TariffDesk$PlanReader") (T := TX4) hC inW4 tyX4 tyX4_ok nmX4 hG.1 hM 1 e_m5 (by decide) rfl rfl (by decide) rfl (hC.2.2.2.2 _ flc_X4_18) (fun _ h => h) rfl (tyX4_ok 1 (by decide)) (nr_obj _) dX4_init_17 (fun H locs hM => ?_)
  replace hM : MC D cy z0 A s.heap m5 H locs := by rw [MC, show gN m5 = gN m4 from pR_gN e_m5]; exact hM
  obtain rfl := Option.some.inj h
  exact Kr _ _ _ _ dX4_init_20 hM
theorem cX4_init_ok {l : Launch} {D : va_G} {cy : Nat → ClassId} {z0 : Nat} {A : Nat → Prop} {o0 : Nat} {x1 : Option Nat} {σ σ' : Mem} (h : fX4_init o0 x1 σ = some σ') : CtN l yX4_init cX4_init 2 4 142 572 [.ref (adz z0 o0), va_rf (Option.map (adz z0) x1)] D cy z0 A σ σ' :=
  enterN (own := RX4) (by decide) rfl rfl (by simp [lg_sl, va_cat, vcI, vcL, vcR]) (fun p e s m below meth c Q ls hC hG hM hin Kr hl => wX4_init hC hG hin Kr _ _ _ _ _ _ h hM (by simp [lv_args, va_cat, vcI, vcL, vcR] at hl; exact hl))
theorem wol_X8_1 : Cond.methodLink RX8 1 objectInit ∈ WALL := WALL_of (by decide +kernel) (by decide +kernel)
theorem wcl_X8_7 : Cond.classLink RX8 7 RX6 ∈ WALL := WALL_of (by decide +kernel) (by decide +kernel)
theorem mli_X8_9 : Cond.methodLinkNest RX8 9 yX6_init "TariffDesk" ∈ NWL := NW_of (List.mem_of_getElem? (i := 99) (by decide +kernel)) rfl
theorem wci_X6_init : Cond.code yX6_init cX6_init 1 none ∈ WALL := WALL_of (List.mem_of_getElem? (i := 101) (by decide +kernel)) (by decide +kernel)
theorem wii_X6_init : Cond.instanceMethod yX6_init ∈ WALL := WALL_of (List.mem_of_getElem? (i := 100) (by decide +kernel)) (by decide +kernel)
theorem hdi_X6_init : yX6_init.cls ≠ "java/lang/invoke/MethodHandle" ∧ yX6_init.cls ≠ "java/lang/invoke/VarHandle" ∧ (parseMethodDescriptor yX6_init.desc).map (fun d => d.parameters.length) = some 0 := by decide +kernel
theorem flc_X8_10 : Cond.fieldLink RX8 10 "TariffDesk" "tape" "LTariffDesk$Tape;" ∈ WALL := WALL_of (List.mem_of_getElem? (i := 328) (by decide +kernel)) (by decide +kernel)
theorem wcl_X8_16 : Cond.classLink RX8 16 RX4 ∈ WALL := WALL_of (by decide +kernel) (by decide +kernel)
theorem mli_X8_18 : Cond.methodLinkNest RX8 18 yX4_init "TariffDesk" ∈ NWL := NW_of (List.mem_of_getElem? (i := 116) (by decide +kernel)) rfl
theorem wci_X4_init : Cond.code yX4_init cX4_init 2 none ∈ WALL := WALL_of (List.mem_of_getElem? (i := 118) (by decide +kernel)) (by decide +kernel)
theorem wii_X4_init : Cond.instanceMethod yX4_init ∈ WALL := WALL_of (List.mem_of_getElem? (i := 117) (by decide +kernel)) (by decide +kernel)
theorem hdi_X4_init : yX4_init.cls ≠ "java/lang/invoke/MethodHandle" ∧ yX4_init.cls ≠ "java/lang/invoke/VarHandle" ∧ (parseMethodDescriptor yX4_init.desc).map (fun d => d.parameters.length) = some 1 := by decide +kernel
theorem flc_X8_21 : Cond.fieldLink RX8 21 "TariffDesk" "reader" "LTariffDesk$PlanReader;" ∈ WALL := WALL_of (List.mem_of_getElem? (i := 329) (by decide +kernel)) (by decide +kernel)
theorem wcl_X8_25 : Cond.classLink RX8 25 RX7 ∈ WALL := WALL_of (by decide +kernel) (by decide +kernel)
theorem mli_X8_27 : Cond.methodLinkNest RX8 27 yX7_init "TariffDesk" ∈ NWL := NW_of (List.mem_of_getElem? (i := 255) (by decide +kernel)) rfl
theorem wci_X7_init : Cond.code yX7_init cX7_init 1 none ∈ WALL := WALL_of (List.mem_of_getElem? (i := 257) (by decide +kernel)) (by decide +kernel)
theorem wii_X7_init : Cond.instanceMethod yX7_init ∈ WALL := WALL_of (List.mem_of_getElem? (i := 256) (by decide +kernel)) (by decide +kernel)
theorem hdi_X7_init : yX7_init.cls ≠ "java/lang/invoke/MethodHandle" ∧ yX7_init.cls ≠ "java/lang/invoke/VarHandle" ∧ (parseMethodDescriptor yX7_init.desc).map (fun d => d.parameters.length) = some 0 := by decide +kernel
theorem flc_X8_28 : Cond.fieldLink RX8 28 "TariffDesk" "useBook" "LTariffDesk$UseBook;" ∈ WALL := WALL_of (List.mem_of_getElem? (i := 330) (by decide +kernel)) (by decide +kernel)
theorem wcl_X8_32 : Cond.classLink RX8 32 RX5 ∈ WALL := WALL_of (by decide +kernel) (by decide +kernel)
theorem mli_X8_34 : Cond.methodLinkNest RX8 34 yX5_init "TariffDesk" ∈ NWL := NW_of (List.mem_of_getElem? (i := 268) (by decide +kernel)) rfl
theorem wci_X5_init : Cond.code yX5_init cX5_init 1 none ∈ WALL := WALL_of (List.mem_of_getElem? (i := 270) (by decide +kernel)) (by decide +kernel)
theorem wii_X5_init : Cond.instanceMethod yX5_init ∈ WALL := WALL_of (List.mem_of_getElem? (i := 269) (by decide +kernel)) (by decide +kernel)
theorem hdi_X5_init : yX5_init.cls ≠ "java/lang/invoke/MethodHandle" ∧ yX5_init.cls ≠ "java/lang/invoke/VarHandle" ∧ (parseMethodDescriptor yX5_init.desc).map (fun d => d.parameters.length) = some 0 := by decide +kernel
theorem flc_X8_35 : Cond.fieldLink RX8 35 "TariffDesk" "finder" "LTariffDesk$RowFinder;" ∈ WALL := WALL_of (List.mem_of_getElem? (i := 331) (by decide +kernel)) (by decide +kernel)
theorem wcl_X8_39 : Cond.classLink RX8 39 RX1 ∈ WALL := WALL_of (by decide +kernel) (by decide +kernel)
theorem mli_X8_41 : Cond.methodLinkNest RX8 41 yX1_init "TariffDesk" ∈ NWL := NW_of (List.mem_of_getElem? (i := 300) (by decide +kernel)) rfl
theorem wci_X1_init : Cond.code yX1_init cX1_init 1 none ∈ WALL := WALL_of (List.mem_of_getElem? (i := 302) (by decide +kernel)) (by decide +kernel)
theorem wii_X1_init : Cond.instanceMethod yX1_init ∈ WALL := WALL_of (List.mem_of_getElem? (i := 301) (by decide +kernel)) (by decide +kernel)
theorem hdi_X1_init : yX1_init.cls ≠ "java/lang/invoke/MethodHandle" ∧ yX1_init.cls ≠ "java/lang/invoke/VarHandle" ∧ (parseMethodDescriptor yX1_init.desc).map (fun d => d.parameters.length) = some 0 := by decide +kernel
theorem flc_X8_42 : Cond.fieldLink RX8 42 "TariffDesk" "parting" "LTariffDesk$Parting;" ∈ WALL := WALL_of (List.mem_of_getElem? (i := 332) (by decide +kernel)) (by decide +kernel)
theorem flc_X8_46 : Cond.fieldLink RX8 46 "TariffDesk" "spanLeast" "[I" ∈ WALL := WALL_of (List.mem_of_getElem? (i := 333) (by decide +kernel)) (by decide +kernel)
theorem flc_X8_50 : Cond.fieldLink RX8 50 "TariffDesk" "spanGreatest" "[I" ∈ WALL := WALL_of (List.mem_of_getElem? (i := 334) (by decide +kernel)) (by decide +kernel)
theorem flc_X8_53 : Cond.fieldLink RX8 53 "TariffDesk" "row" "[I" ∈ WALL := WALL_of (List.mem_of_getElem? (i := 335) (by decide +kernel)) (by decide +kernel)
theorem wcl_X8_56 : Cond.classLink RX8 56 RX3 ∈ WALL := WALL_of (by decide +kernel) (by decide +kernel)
theorem mli_X8_58 : Cond.methodLinkNest RX8 58 yX3_init "TariffDesk" ∈ NWL := NW_of (List.mem_of_getElem? (i := 323) (by decide +kernel)) rfl
theorem flc_X8_59 : Cond.fieldLink RX8 59 "TariffDesk" "book" "LTariffDesk$PlanBook;" ∈ WALL := WALL_of (List.mem_of_getElem? (i := 336) (by decide +kernel)) (by decide +kernel)
theorem mlv_X8_63 : Cond.methodLink RX8 63 yX8_forgetRow ∈ WALL := WALL_of (List.mem_of_getElem? (i := 324) (by decide +kernel)) (by decide +kernel)
theorem wcv_X8_forgetRow : Cond.code yX8_forgetRow cX8_forgetRow 2 none ∈ WALL := WALL_of (List.mem_of_getElem? (i := 327) (by decide +kernel)) (by decide +kernel)
theorem wiv_X8_forgetRow : Cond.instanceMethod yX8_forgetRow ∈ WALL := WALL_of (List.mem_of_getElem? (i := 326) (by decide +kernel)) (by decide +kernel)
theorem wsv_X8_forgetRow : Cond.selects RX8 yX8_forgetRow yX8_forgetRow ∈ WALL := WALL_of (List.mem_of_getElem? (i := 2) (by decide +kernel)) (by decide +kernel)
theorem hdv_X8_forgetRow : yX8_forgetRow.cls ≠ "java/lang/invoke/MethodHandle" ∧ yX8_forgetRow.cls ≠ "java/lang/invoke/VarHandle" ∧ (parseMethodDescriptor yX8_forgetRow.desc).map (fun d => d.parameters.length) = some 0 := by decide +kernel
def fX8_init (o0 : Nat) (σ : Mem) : Option Mem :=
  bd (gN σ) fun t1 =>
  bd (al σ 6 0) fun m2 =>
  (fX6_init t1 m2).bind fun m3 =>
  (pR m3 8 0 (some o0) (some t1)).bind fun m4 =>
  bd (gN m4) fun t5 =>
  bd (al m4 4 0) fun m6 =>
  (fR m6 8 0 (some o0)).bind fun t7 =>
  (fX4_init t5 t7 m6).bind fun m8 =>
  (pR m8 8 1 (some o0) (some t5)).bind fun m9 =>
  bd (gN m9) fun t10 =>
  bd (al m9 7 0) fun m11 =>
  (fX7_init t10 m11).bind fun m12 =>
  (pR m12 8 2 (some o0) (some t10)).bind fun m13 =>
  bd (gN m13) fun t14 =>
  bd (al m13 5 0) fun m15 =>
  (fX5_init t14 m15).bind fun m16 =>
  (pR m16 8 3 (some o0) (some t14)).bind fun m17 =>
  bd (gN m17) fun t18 =>
  bd (al m17 1 0) fun m19 =>
  (fX1_init t18 m19).bind fun m20 =>
  (pR m20 8 4 (some o0) (some t18)).bind fun m21 =>
  bd (gN m21) fun t22 =>
  bd (al m21 11 4) fun m23 =>
  (pR m23 8 5 (some o0) (some t22)).bind fun m24 =>
  bd (gN m24) fun t25 =>
  bd (al m24 11 4) fun m26 =>
  (pR m26 8 6 (some o0) (some t25)).bind fun m27 =>
  bd (gN m27) fun t28 =>
  bd (al m27 11 24) fun m29 =>
  (pR m29 8 7 (some o0) (some t28)).bind fun m30 =>
  bd (gN m30) fun t31 =>
  bd (al m30 3 0) fun m32 =>
  (fX3_init t31 m32).bind fun m33 =>
  (pR m33 8 8 (some o0) (some t31)).bind fun m34 =>
  (kT m34 8 (some o0)).bind fun k35 =>
  (fX8_forgetRow k35 m34).bind fun m36 =>
  if gN m36 = gN m34 then
  some m36
  else none
set_option maxRecDepth 20000 in
set_option maxHeartbeats 4000000 in
theorem wX8_init {p : Program} {l : Launch} {e : Env} {s : State} {m : MethodId} {args : Array Value} {below : List Frame} {meth : Method} {c : Code} {Q : State → Prop} {D : va_G} {cy : Nat → ClassId} {z0 : Nat} {A : Nat → Prop} {σ' : Mem} (hC : CallFix p m c cX8_init 1 s args WALL RX8) (hG : GC D cy A s) (hin : meth.name = "<init>") (Kr : KrN p l e (rmC 5 303 3444) s m args below meth c cX8_init Q D cy z0 A 303 3444 σ') (o0 : Nat) (σ : Mem) (H : Heap) (locs : List Loc) (ls : Array Slot) (h : fX8_init o0 σ = some σ') (hM : MC D cy z0 A s.heap σ H locs) (hl : lv_has ls 1 [(0, va_rf (Option.map (adz z0) (some o0)))]) : W p l e (rmC 5 303 3444) s m args below meth c H locs 0 0 Q (F0 m 0 ls []) := by
  have hx := hC.1
  have hb := hC.2.1
  unfold fX8_init at h
  refine lr_aload_n hx hb dX8_init_0 rfl (lv_at hl 0 rfl) ?_
  refine W.objInit hx hb hC.2.2.2.1 (hC.2.2.2.2 _ wol_X8_1) (hC.2.2.2.2 _ wo_i) (hC.2.2.2.2 _ wo_c) rfl (hl.1.trans hC.2.2.1.symm) rfl dX8_init_1 (Nat.le_of_ble_eq_true rfl) (Nat.le_of_ble_eq_true rfl) ?_
  refine W.eq (g2 := F0 m 4 ls []) rfl ?_
  refine lr_aload_n hx hb dX8_init_4 rfl (lv_at hl 0 rfl) ?_
  obtain ⟨t1, e_t1, h⟩ := bd_elim h
  obtain ⟨m2, e_m2, h⟩ := bd_elim h
  refine m_newc (T := TX6) hC inW6 tyX6 tyX6_ok wcl_X8_7 wia_6 wni_X6 hG.1 hM (by decide) rfl rfl dv6 (by decide) (by decide) dX8_init_5 (fun H hM => ?_)
  rw [← e_t1]
  rw [← e_m2] at hM
  refine lv_dup hx hb dX8_init_8 (va_cat _) ?_
  obtain ⟨m3, e_m3, h⟩ := bn h
  refine callIN_N (As := []) ⟨by decide, by decide⟩ rfl mli_X8_9 wii_X6_init rfl wni_X6 wci_X6_init hdi_X6_init hC hG hM (cX6_init_ok e_m3) ⟨by decide, by decide⟩ hl.1 (by first | exact Nat.le_of_ble_eq_true rfl | simp [va_cat, vcI, vcL, vcR]) dX8_init_9 rfl (fun H locs hM => ?_)
  obtain ⟨m4, e_m4, h⟩ := bn h
  refine m_putF (T := TX8) hC inW8 tyX8 tyX8_ok nmX8 hG.1 hM 0 e_m4 (by decide) rfl rfl (by decide) rfl flc_X8_10 rfl rfl hin rfl (tyX8_ok 0 (by decide)) (nr_obj _) dX8_init_12 (fun H locs hM => ?_)
  refine lr_aload_n hx hb dX8_init_15 rfl (lv_at hl 0 rfl) ?_
  obtain ⟨t5, e_t5, h⟩ := bd_elim h
  obtain ⟨m6, e_m6, h⟩ := bd_elim h
  refine m_newc (T := TX4) hC inW4 tyX4 tyX4_ok wcl_X8_16 wia_4 wni_X4 hG.1 hM (by decide) rfl rfl dv4 (by decide) (by decide) dX8_init_16 (fun H hM => ?_)
  rw [← e_t5]
  rw [← e_m6] at hM
  refine lv_dup hx hb dX8_init_19 (va_cat _) ?_
  refine lr_aload_n hx hb dX8_init_20 rfl (lv_at hl 0 rfl) ?_
  obtain ⟨t7, e_t7, h⟩ := bn h
  refine g_fR (ref := "TariffDesk") (T := TX8) hC inW8 hG.1 hM 0 e_t7 (by decide) rfl rfl (by decide) rfl (hC.2.2.2.2 _ flc_X8_10) (fun _ h => h) dX8_init_21 ?_
  obtain ⟨m8, e_m8, h⟩ := bn h
  refine callIN_N (As := [va_rf (Option.map (adz z0) t7)]) ⟨by decide, by decide⟩ rfl mli_X8_18 wii_X4_init rfl wni_X4 wci_X4_init hdi_X4_init hC hG hM (cX4_init_ok e_m8) ⟨by decide, by decide⟩ hl.1 (by first | exact Nat.le_of_ble_eq_true rfl | simp [va_cat, vcI, vcL, vcR]) dX8_init_24 rfl (fun H locs hM => ?_)
  obtain ⟨m9, e_m9, h⟩ := bn h
  refine m_putF (T := TX8) hC inW8 tyX8 tyX8_ok nmX8 hG.1 hM 1 e_m9 (by decide) rfl rfl (by decide) rfl flc_X8_21 rfl rfl hin rfl (tyX8_ok 1 (by decide)) (nr_obj _) dX8_init_27 (fun H locs hM => ?_)
  refine lr_aload_n hx hb dX8_init_30 rfl (lv_at hl 0 rfl) ?_
  obtain ⟨t10, e_t10, h⟩ := bd_elim h
  obtain ⟨m11, e_m11, h⟩ := bd_elim h
  refine m_newc (T := TX7) hC inW7 tyX7 tyX7_ok wcl_X8_25 wia_7 wni_X7 hG.1 hM (by decide) rfl rfl dv7 (by decide) (by decide) dX8_init_31 (fun H hM => ?_)
  rw [← e_t10]
  rw [← e_m11] at hM
  refine lv_dup hx hb dX8_init_34 (va_cat _) ?_
  obtain ⟨m12, e_m12, h⟩ := bn h
  refine callIN_N (As := []) ⟨by decide, by decide⟩ rfl mli_X8_27 wii_X7_init rfl wni_X7 wci_X7_init hdi_X7_init hC hG hM (cX7_init_ok e_m12) ⟨by decide, by decide⟩ hl.1 (by first | exact Nat.le_of_ble_eq_true rfl | simp [va_cat, vcI, vcL, vcR]) dX8_init_35 rfl (fun H locs hM => ?_)
  obtain ⟨m13, e_m13, h⟩ := bn h
  refine m_putF (T := TX8) hC inW8 tyX8 tyX8_ok nmX8 hG.1 hM 2 e_m13 (by decide) rfl rfl (by decide) rfl flc_X8_28 rfl rfl hin rfl (tyX8_ok 2 (by decide)) (nr_obj _) dX8_init_38 (fun H locs hM => ?_)
  refine lr_aload_n hx hb dX8_init_41 rfl (lv_at hl 0 rfl) ?_
  obtain ⟨t14, e_t14, h⟩ := bd_elim h
  obtain ⟨m15, e_m15, h⟩ := bd_elim h
  refine m_newc (T := TX5) hC inW5 tyX5 tyX5_ok wcl_X8_32 wia_5 wni_X5 hG.1 hM (by decide) rfl rfl dv5 (by decide) (by decide) dX8_init_42 (fun H hM => ?_)
  rw [← e_t14]
  rw [← e_m15] at hM
  refine lv_dup hx hb dX8_init_45 (va_cat _) ?_
  obtain ⟨m16, e_m16, h⟩ := bn h
  refine callIN_N (As := []) ⟨by decide, by decide⟩ rfl mli_X8_34 wii_X5_init rfl wni_X5 wci_X5_init hdi_X5_init hC hG hM (cX5_init_ok e_m16) ⟨by decide, by decide⟩ hl.1 (by first | exact Nat.le_of_ble_eq_true rfl | simp [va_cat, vcI, vcL, vcR]) dX8_init_46 rfl (fun H locs hM => ?_)
  obtain ⟨m17, e_m17, h⟩ := bn h
  refine m_putF (T := TX8) hC inW8 tyX8 tyX8_ok nmX8 hG.1 hM 3 e_m17 (by decide) rfl rfl (by decide) rfl flc_X8_35 rfl rfl hin rfl (tyX8_ok 3 (by decide)) (nr_obj _) dX8_init_49 (fun H locs hM => ?_)
  refine lr_aload_n hx hb dX8_init_52 rfl (lv_at hl 0 rfl) ?_
  obtain ⟨t18, e_t18, h⟩ := bd_elim h
  obtain ⟨m19, e_m19, h⟩ := bd_elim h
  refine m_newc (T := TX1) hC inW1 tyX1 tyX1_ok wcl_X8_39 wia_1 wni_X1 hG.1 hM (by decide) rfl rfl dv1 (by decide) (by decide) dX8_init_53 (fun H hM => ?_)
  rw [← e_t18]
  rw [← e_m19] at hM
  refine lv_dup hx hb dX8_init_56 (va_cat _) ?_
  obtain ⟨m20, e_m20, h⟩ := bn h
  refine callIN_N (As := []) ⟨by decide, by decide⟩ rfl mli_X8_41 wii_X1_init rfl wni_X1 wci_X1_init hdi_X1_init hC hG hM (cX1_init_ok e_m20) ⟨by decide, by decide⟩ hl.1 (by first | exact Nat.le_of_ble_eq_true rfl | simp [va_cat, vcI, vcL, vcR]) dX8_init_57 rfl (fun H locs hM => ?_)
  obtain ⟨m21, e_m21, h⟩ := bn h
  refine m_putF (T := TX8) hC inW8 tyX8 tyX8_ok nmX8 hG.1 hM 4 e_m21 (by decide) rfl rfl (by decide) rfl flc_X8_42 rfl rfl hin rfl (tyX8_ok 4 (by decide)) (nr_obj _) dX8_init_60 (fun H locs hM => ?_)
  refine lr_aload_n hx hb dX8_init_63 rfl (lv_at hl 0 rfl) ?_
  refine lv_iconst (v := 4) hx hb dX8_init_64 (by decide) ?_
  obtain ⟨t22, e_t22, h⟩ := bd_elim h
  obtain ⟨m23, e_m23, h⟩ := bd_elim h
  refine m_newI (atype := .int) (N := 4) 11 1 (by decide) hx hb (hC.2.2.2.2 _ wa_int) hG.1 rfl (fun h => h) rfl hM (by decide) (by decide) (by decide) (by decide) (by decide) dX8_init_65 (fun H hM => ?_)
  rw [← e_t22]
  rw [← e_m23] at hM
  obtain ⟨m24, e_m24, h⟩ := bn h
  refine m_putF (T := TX8) hC inW8 tyX8 tyX8_ok nmX8 hG.1 hM 5 e_m24 (by decide) rfl rfl (by decide) rfl flc_X8_46 rfl rfl hin rfl (tyX8_ok 5 (by decide)) (nr_arr _) dX8_init_67 (fun H locs hM => ?_)
  refine lr_aload_n hx hb dX8_init_70 rfl (lv_at hl 0 rfl) ?_
  refine lv_iconst (v := 4) hx hb dX8_init_71 (by decide) ?_
  obtain ⟨t25, e_t25, h⟩ := bd_elim h
  obtain ⟨m26, e_m26, h⟩ := bd_elim h
  refine m_newI (atype := .int) (N := 4) 11 1 (by decide) hx hb (hC.2.2.2.2 _ wa_int) hG.1 rfl (fun h => h) rfl hM (by decide) (by decide) (by decide) (by decide) (by decide) dX8_init_72 (fun H hM => ?_)
  rw [← e_t25]
  rw [← e_m26] at hM
  obtain ⟨m27, e_m27, h⟩ := bn h
  refine m_putF (T := TX8) hC inW8 tyX8 tyX8_ok nmX8 hG.1 hM 6 e_m27 (by decide) rfl rfl (by decide) rfl flc_X8_50 rfl rfl hin rfl (tyX8_ok 6 (by decide)) (nr_arr _) dX8_init_74 (fun H locs hM => ?_)
  refine lr_aload_n hx hb dX8_init_77 rfl (lv_at hl 0 rfl) ?_
  refine lv_bipush (v := 24) hx hb dX8_init_78 (by decide) ?_
  obtain ⟨t28, e_t28, h⟩ := bd_elim h
  obtain ⟨m29, e_m29, h⟩ := bd_elim h
  refine m_newI (atype := .int) (N := 24) 11 1 (by decide) hx hb (hC.2.2.2.2 _ wa_int) hG.1 rfl (fun h => h) rfl hM (by decide) (by decide) (by decide) (by decide) (by decide) dX8_init_80 (fun H hM => ?_)
  rw [← e_t28]
  rw [← e_m29] at hM
  obtain ⟨m30, e_m30, h⟩ := bn h
  refine m_putF (T := TX8) hC inW8 tyX8 tyX8_ok nmX8 hG.1 hM 7 e_m30 (by decide) rfl rfl (by decide) rfl flc_X8_53 rfl rfl hin rfl (tyX8_ok 7 (by decide)) (nr_arr _) dX8_init_82 (fun H locs hM => ?_)
  refine lr_aload_n hx hb dX8_init_85 rfl (lv_at hl 0 rfl) ?_
  obtain ⟨t31, e_t31, h⟩ := bd_elim h
  obtain ⟨m32, e_m32, h⟩ := bd_elim h
  refine m_newc (T := TX3) hC inW3 tyX3 tyX3_ok wcl_X8_56 wia_3 wni_X3 hG.1 hM (by decide) rfl rfl dv3 (by decide) (by decide) dX8_init_86 (fun H hM => ?_)
  rw [← e_t31]
  rw [← e_m32] at hM
  refine lv_dup hx hb dX8_init_89 (va_cat _) ?_
  obtain ⟨m33, e_m33, h⟩ := bn h
  refine callIN_N (As := []) ⟨by decide, by decide⟩ rfl mli_X8_58 wii_X3_init rfl wni_X3 wci_X3_init hdi_X3_init hC hG hM (cX3_init_ok e_m33) ⟨by decide, by decide⟩ hl.1 (by first | exact Nat.le_of_ble_eq_true rfl | simp [va_cat, vcI, vcL, vcR]) dX8_init_90 rfl (fun H locs hM => ?_)
  obtain ⟨m34, e_m34, h⟩ := bn h
  refine g_pR (ref := "TariffDesk") (T := TX8) hC inW8 tyX8 tyX8_ok nmX8 hG.1 hM 8 e_m34 (by decide) rfl rfl (by decide) rfl (hC.2.2.2.2 _ flc_X8_59) (fun _ h => h) rfl (tyX8_ok 8 (by decide)) (nr_obj _) dX8_init_93 (fun H locs hM => ?_)
  replace hM : MC D cy z0 A s.heap m34 H locs := by rw [MC, show gN m34 = gN m33 from pR_gN e_m34]; exact hM
  refine lr_aload_n hx hb dX8_init_96 rfl (lv_at hl 0 rfl) ?_
  obtain ⟨k35, e_k35, h⟩ := bn h
  obtain ⟨m36, e_m36, h⟩ := bn h
  by_cases c37 : gN m36 = gN m34
  case neg => rw [if_neg c37] at h; cases h
  rw [if_pos c37] at h
  refine callV_Vc ⟨by decide, by decide⟩ e_k35 (by decide) rfl mlv_X8_63 wiv_X8_forgetRow wsv_X8_forgetRow rfl wni_X8 wcv_X8_forgetRow hdv_X8_forgetRow hC hG.1 hM (cX8_forgetRow_ok e_m36) c37 ⟨by decide, by decide⟩ hl.1 (by first | exact Nat.le_of_ble_eq_true rfl | simp [va_cat, vcI, vcL, vcR]) dX8_init_97 (fun H locs hM => ?_)
  obtain rfl := Option.some.inj h
  exact Kr _ _ _ _ dX8_init_100 hM
theorem cX8_init_ok {l : Launch} {D : va_G} {cy : Nat → ClassId} {z0 : Nat} {A : Nat → Prop} {o0 : Nat} {σ σ' : Mem} (h : fX8_init o0 σ = some σ') : CtN l yX8_init cX8_init 1 5 303 3444 [.ref (adz z0 o0)] D cy z0 A σ σ' :=
  enterN (own := RX8) (by decide) rfl rfl (Nat.le_of_ble_eq_true rfl) (fun p e s m below meth c Q ls hC hG hM hin Kr hl => wX8_init hC hG hin Kr _ _ _ _ _ h hM hl)
theorem wol_X9_1 : Cond.methodLink RX9 1 objectInit ∈ WALL := WALL_of (by decide +kernel) (by decide +kernel)
theorem flc_X9_7 : Cond.fieldLink RX9 7 "TariffDeskModel" "tape" "[I" ∈ WALL := WALL_of (List.mem_of_getElem? (i := 784) (by decide +kernel)) (by decide +kernel)
theorem flc_X9_13 : Cond.fieldLink RX9 13 "TariffDeskModel" "names" "[J" ∈ WALL := WALL_of (List.mem_of_getElem? (i := 794) (by decide +kernel)) (by decide +kernel)
theorem flc_X9_17 : Cond.fieldLink RX9 17 "TariffDeskModel" "fee" "[I" ∈ WALL := WALL_of (List.mem_of_getElem? (i := 795) (by decide +kernel)) (by decide +kernel)
theorem flc_X9_20 : Cond.fieldLink RX9 20 "TariffDeskModel" "term" "[I" ∈ WALL := WALL_of (List.mem_of_getElem? (i := 796) (by decide +kernel)) (by decide +kernel)
theorem flc_X9_23 : Cond.fieldLink RX9 23 "TariffDeskModel" "first" "[I" ∈ WALL := WALL_of (List.mem_of_getElem? (i := 797) (by decide +kernel)) (by decide +kernel)
theorem flc_X9_26 : Cond.fieldLink RX9 26 "TariffDeskModel" "last" "[I" ∈ WALL := WALL_of (List.mem_of_getElem? (i := 798) (by decide +kernel)) (by decide +kernel)
theorem flc_X9_29 : Cond.fieldLink RX9 29 "TariffDeskModel" "has" "[Z" ∈ WALL := WALL_of (List.mem_of_getElem? (i := 799) (by decide +kernel)) (by decide +kernel)
theorem flc_X9_33 : Cond.fieldLink RX9 33 "TariffDeskModel" "free" "[I" ∈ WALL := WALL_of (List.mem_of_getElem? (i := 800) (by decide +kernel)) (by decide +kernel)
theorem flc_X9_36 : Cond.fieldLink RX9 36 "TariffDeskModel" "steps" "[I" ∈ WALL := WALL_of (List.mem_of_getElem? (i := 801) (by decide +kernel)) (by decide +kernel)
theorem flc_X9_39 : Cond.fieldLink RX9 39 "TariffDeskModel" "upTo" "[I" ∈ WALL := WALL_of (List.mem_of_getElem? (i := 802) (by decide +kernel)) (by decide +kernel)
theorem flc_X9_42 : Cond.fieldLink RX9 42 "TariffDeskModel" "cents" "[I" ∈ WALL := WALL_of (List.mem_of_getElem? (i := 803) (by decide +kernel)) (by decide +kernel)
theorem flc_X9_45 : Cond.fieldLink RX9 45 "TariffDeskModel" "rest" "[I" ∈ WALL := WALL_of (List.mem_of_getElem? (i := 804) (by decide +kernel)) (by decide +kernel)
theorem flc_X9_48 : Cond.fieldLink RX9 48 "TariffDeskModel" "out" "[I" ∈ WALL := WALL_of (List.mem_of_getElem? (i := 808) (by decide +kernel)) (by decide +kernel)
theorem flc_X9_51 : Cond.fieldLink RX9 51 "TariffDeskModel" "used" "[I" ∈ WALL := WALL_of (List.mem_of_getElem? (i := 810) (by decide +kernel)) (by decide +kernel)
theorem flc_X9_54 : Cond.fieldLink RX9 54 "TariffDeskModel" "dear" "[J" ∈ WALL := WALL_of (List.mem_of_getElem? (i := 812) (by decide +kernel)) (by decide +kernel)
theorem flc_X9_57 : Cond.fieldLink RX9 57 "TariffDeskModel" "dearThen" "[J" ∈ WALL := WALL_of (List.mem_of_getElem? (i := 813) (by decide +kernel)) (by decide +kernel)
theorem flc_X9_60 : Cond.fieldLink RX9 60 "TariffDeskModel" "rows" "[I" ∈ WALL := WALL_of (List.mem_of_getElem? (i := 814) (by decide +kernel)) (by decide +kernel)
theorem flc_X9_63 : Cond.fieldLink RX9 63 "TariffDeskModel" "rowsThen" "[I" ∈ WALL := WALL_of (List.mem_of_getElem? (i := 815) (by decide +kernel)) (by decide +kernel)
theorem flc_X9_66 : Cond.fieldLink RX9 66 "TariffDeskModel" "row" "[I" ∈ WALL := WALL_of (List.mem_of_getElem? (i := 816) (by decide +kernel)) (by decide +kernel)
theorem flc_X9_69 : Cond.fieldLink RX9 69 "TariffDeskModel" "alone" "[J" ∈ WALL := WALL_of (List.mem_of_getElem? (i := 819) (by decide +kernel)) (by decide +kernel)
theorem flc_X9_72 : Cond.fieldLink RX9 72 "TariffDeskModel" "parted" "[J" ∈ WALL := WALL_of (List.mem_of_getElem? (i := 820) (by decide +kernel)) (by decide +kernel)
theorem flc_X9_75 : Cond.fieldLink RX9 75 "TariffDeskModel" "taken" "[I" ∈ WALL := WALL_of (List.mem_of_getElem? (i := 821) (by decide +kernel)) (by decide +kernel)
theorem flc_X9_78 : Cond.fieldLink RX9 78 "TariffDeskModel" "group" "[I" ∈ WALL := WALL_of (List.mem_of_getElem? (i := 822) (by decide +kernel)) (by decide +kernel)
theorem flc_X9_81 : Cond.fieldLink RX9 81 "TariffDeskModel" "least" "[I" ∈ WALL := WALL_of (List.mem_of_getElem? (i := 823) (by decide +kernel)) (by decide +kernel)
theorem flc_X9_84 : Cond.fieldLink RX9 84 "TariffDeskModel" "greatest" "[I" ∈ WALL := WALL_of (List.mem_of_getElem? (i := 824) (by decide +kernel)) (by decide +kernel)
def fX9_init (o0 : Nat) (σ : Mem) : Option Mem :=
  bd (gN σ) fun t1 =>
  bd (al σ 11 840) fun m2 =>
  (pR m2 9 1 (some o0) (some t1)).bind fun m3 =>
  bd (gN m3) fun t4 =>
  bd (al m3 12 20) fun m5 =>
  (pR m5 9 11 (some o0) (some t4)).bind fun m6 =>
  bd (gN m6) fun t7 =>
  bd (al m6 11 20) fun m8 =>
  (pR m8 9 12 (some o0) (some t7)).bind fun m9 =>
  bd (gN m9) fun t10 =>
  bd (al m9 11 20) fun m11 =>
  (pR m11 9 13 (some o0) (some t10)).bind fun m12 =>
  bd (gN m12) fun t13 =>
  bd (al m12 11 20) fun m14 =>
  (pR m14 9 14 (some o0) (some t13)).bind fun m15 =>
  bd (gN m15) fun t16 =>
  bd (al m15 11 20) fun m17 =>
  (pR m17 9 15 (some o0) (some t16)).bind fun m18 =>
  bd (gN m18) fun t19 =>
  bd (al m18 13 80) fun m20 =>
  (pR m20 9 16 (some o0) (some t19)).bind fun m21 =>
  bd (gN m21) fun t22 =>
  bd (al m21 11 80) fun m23 =>
  (pR m23 9 17 (some o0) (some t22)).bind fun m24 =>
  bd (gN m24) fun t25 =>
  bd (al m24 11 80) fun m26 =>
  (pR m26 9 18 (some o0) (some t25)).bind fun m27 =>
  bd (gN m27) fun t28 =>
  bd (al m27 11 240) fun m29 =>
  (pR m29 9 19 (some o0) (some t28)).bind fun m30 =>
  bd (gN m30) fun t31 =>
  bd (al m30 11 240) fun m32 =>
  (pR m32 9 20 (some o0) (some t31)).bind fun m33 =>
  bd (gN m33) fun t34 =>
  bd (al m33 11 80) fun m35 =>
  (pR m35 9 21 (some o0) (some t34)).bind fun m36 =>
  bd (gN m36) fun t37 =>
  bd (al m36 11 8) fun m38 =>
  (pR m38 9 25 (some o0) (some t37)).bind fun m39 =>
  bd (gN m39) fun t40 =>
  bd (al m39 11 384) fun m41 =>
  (pR m41 9 27 (some o0) (some t40)).bind fun m42 =>
  bd (gN m42) fun t43 =>
  bd (al m42 12 250) fun m44 =>
  (pR m44 9 29 (some o0) (some t43)).bind fun m45 =>
  bd (gN m45) fun t46 =>
  bd (al m45 12 250) fun m47 =>
  (pR m47 9 30 (some o0) (some t46)).bind fun m48 =>
  bd (gN m48) fun t49 =>
  bd (al m48 11 6000) fun m50 =>
  (pR m50 9 31 (some o0) (some t49)).bind fun m51 =>
  bd (gN m51) fun t52 =>
  bd (al m51 11 6000) fun m53 =>
  (pR m53 9 32 (some o0) (some t52)).bind fun m54 =>
  bd (gN m54) fun t55 =>
  bd (al m54 11 24) fun m56 =>
  (pR m56 9 33 (some o0) (some t55)).bind fun m57 =>
  bd (gN m57) fun t58 =>
  bd (al m57 12 16) fun m59 =>
  (pR m59 9 36 (some o0) (some t58)).bind fun m60 =>
  bd (gN m60) fun t61 =>
  bd (al m60 12 16) fun m62 =>
  (pR m62 9 37 (some o0) (some t61)).bind fun m63 =>
  bd (gN m63) fun t64 =>
  bd (al m63 11 16) fun m65 =>
  (pR m65 9 38 (some o0) (some t64)).bind fun m66 =>
  bd (gN m66) fun t67 =>
  bd (al m66 11 4) fun m68 =>
  (pR m68 9 39 (some o0) (some t67)).bind fun m69 =>
  bd (gN m69) fun t70 =>
  bd (al m69 11 4) fun m71 =>
  (pR m71 9 40 (some o0) (some t70)).bind fun m72 =>
  bd (gN m72) fun t73 =>
  bd (al m72 11 4) fun m74 =>
  (pR m74 9 41 (some o0) (some t73)).bind fun m75 =>
  some m75
set_option maxRecDepth 20000 in
set_option maxHeartbeats 4000000 in
theorem wX9_init {p : Program} {l : Launch} {e : Env} {s : State} {m : MethodId} {args : Array Value} {below : List Frame} {meth : Method} {c : Code} {Q : State → Prop} {D : va_G} {cy : Nat → ClassId} {z0 : Nat} {A : Nat → Prop} {σ' : Mem} (hC : CallFix p m c cX9_init 1 s args WALL RX9) (hG : GC D cy A s) (hin : meth.name = "<init>") (Kr : KrN p l e (rmC 1 25 14716) s m args below meth c cX9_init Q D cy z0 A 25 14716 σ') (o0 : Nat) (σ : Mem) (H : Heap) (locs : List Loc) (ls : Array Slot) (h : fX9_init o0 σ = some σ') (hM : MC D cy z0 A s.heap σ H locs) (hl : lv_has ls 1 [(0, va_rf (Option.map (adz z0) (some o0)))]) : W p l e (rmC 1 25 14716) s m args below meth c H locs 0 0 Q (F0 m 0 ls []) := by
  have hx := hC.1
  have hb := hC.2.1
  unfold fX9_init at h
  refine lr_aload_n hx hb dX9_init_0 rfl (lv_at hl 0 rfl) ?_
  refine W.objInit hx hb hC.2.2.2.1 (hC.2.2.2.2 _ wol_X9_1) (hC.2.2.2.2 _ wo_i) (hC.2.2.2.2 _ wo_c) rfl (hl.1.trans hC.2.2.1.symm) rfl dX9_init_1 (Nat.le_of_ble_eq_true rfl) (Nat.le_of_ble_eq_true rfl) ?_
  refine W.eq (g2 := F0 m 4 ls []) rfl ?_
  refine lr_aload_n hx hb dX9_init_4 rfl (lv_at hl 0 rfl) ?_
  refine lv_sipush (v := 840) hx hb dX9_init_5 (by decide) ?_
  obtain ⟨t1, e_t1, h⟩ := bd_elim h
  obtain ⟨m2, e_m2, h⟩ := bd_elim h
  refine m_newI (atype := .int) (N := 840) 11 1 (by decide) hx hb (hC.2.2.2.2 _ wa_int) hG.1 rfl (fun h => h) rfl hM (by decide) (by decide) (by decide) (by decide) (by decide) dX9_init_8 (fun H hM => ?_)
  rw [← e_t1]
  rw [← e_m2] at hM
  obtain ⟨m3, e_m3, h⟩ := bn h
  refine m_putF (T := TX9) hC inW9 tyX9 tyX9_ok nmX9 hG.1 hM 1 e_m3 (by decide) rfl rfl (by decide) rfl flc_X9_7 rfl rfl hin rfl (tyX9_ok 1 (by decide)) (nr_arr _) dX9_init_10 (fun H locs hM => ?_)
  refine lr_aload_n hx hb dX9_init_13 rfl (lv_at hl 0 rfl) ?_
  refine lv_bipush (v := 20) hx hb dX9_init_14 (by decide) ?_
  obtain ⟨t4, e_t4, h⟩ := bd_elim h
  obtain ⟨m5, e_m5, h⟩ := bd_elim h
  refine m_newJ (N := 20) hx hb (hC.2.2.2.2 _ wa_long) hG.1 hM (by decide) (by decide) (by decide) (by decide) (by decide) dX9_init_16 (fun H hM => ?_)
  rw [← e_t4]
  rw [← e_m5] at hM
  obtain ⟨m6, e_m6, h⟩ := bn h
  refine m_putF (T := TX9) hC inW9 tyX9 tyX9_ok nmX9 hG.1 hM 11 e_m6 (by decide) rfl rfl (by decide) rfl flc_X9_13 rfl rfl hin rfl (tyX9_ok 11 (by decide)) (nr_arr _) dX9_init_18 (fun H locs hM => ?_)
  refine lr_aload_n hx hb dX9_init_21 rfl (lv_at hl 0 rfl) ?_
  refine lv_bipush (v := 20) hx hb dX9_init_22 (by decide) ?_
  obtain ⟨t7, e_t7, h⟩ := bd_elim h
  obtain ⟨m8, e_m8, h⟩ := bd_elim h
  refine m_newI (atype := .int) (N := 20) 11 1 (by decide) hx hb (hC.2.2.2.2 _ wa_int) hG.1 rfl (fun h => h) rfl hM (by decide) (by decide) (by decide) (by decide) (by decide) dX9_init_24 (fun H hM => ?_)
  rw [← e_t7]
  rw [← e_m8] at hM
  obtain ⟨m9, e_m9, h⟩ := bn h
  refine m_putF (T := TX9) hC inW9 tyX9 tyX9_ok nmX9 hG.1 hM 12 e_m9 (by decide) rfl rfl (by decide) rfl flc_X9_17 rfl rfl hin rfl (tyX9_ok 12 (by decide)) (nr_arr _) dX9_init_26 (fun H locs hM => ?_)
  refine lr_aload_n hx hb dX9_init_29 rfl (lv_at hl 0 rfl) ?_
  refine lv_bipush (v := 20) hx hb dX9_init_30 (by decide) ?_
  obtain ⟨t10, e_t10, h⟩ := bd_elim h
  obtain ⟨m11, e_m11, h⟩ := bd_elim h
  refine m_newI (atype := .int) (N := 20) 11 1 (by decide) hx hb (hC.2.2.2.2 _ wa_int) hG.1 rfl (fun h => h) rfl hM (by decide) (by decide) (by decide) (by decide) (by decide) dX9_init_32 (fun H hM => ?_)
  rw [← e_t10]
  rw [← e_m11] at hM
  obtain ⟨m12, e_m12, h⟩ := bn h
  refine m_putF (T := TX9) hC inW9 tyX9 tyX9_ok nmX9 hG.1 hM 13 e_m12 (by decide) rfl rfl (by decide) rfl flc_X9_20 rfl rfl hin rfl (tyX9_ok 13 (by decide)) (nr_arr _) dX9_init_34 (fun H locs hM => ?_)
  refine lr_aload_n hx hb dX9_init_37 rfl (lv_at hl 0 rfl) ?_
  refine lv_bipush (v := 20) hx hb dX9_init_38 (by decide) ?_
  obtain ⟨t13, e_t13, h⟩ := bd_elim h
  obtain ⟨m14, e_m14, h⟩ := bd_elim h
  refine m_newI (atype := .int) (N := 20) 11 1 (by decide) hx hb (hC.2.2.2.2 _ wa_int) hG.1 rfl (fun h => h) rfl hM (by decide) (by decide) (by decide) (by decide) (by decide) dX9_init_40 (fun H hM => ?_)
  rw [← e_t13]
  rw [← e_m14] at hM
  obtain ⟨m15, e_m15, h⟩ := bn h
  refine m_putF (T := TX9) hC inW9 tyX9 tyX9_ok nmX9 hG.1 hM 14 e_m15 (by decide) rfl rfl (by decide) rfl flc_X9_23 rfl rfl hin rfl (tyX9_ok 14 (by decide)) (nr_arr _) dX9_init_42 (fun H locs hM => ?_)
  refine lr_aload_n hx hb dX9_init_45 rfl (lv_at hl 0 rfl) ?_
  refine lv_bipush (v := 20) hx hb dX9_init_46 (by decide) ?_
  obtain ⟨t16, e_t16, h⟩ := bd_elim h
  obtain ⟨m17, e_m17, h⟩ := bd_elim h
  refine m_newI (atype := .int) (N := 20) 11 1 (by decide) hx hb (hC.2.2.2.2 _ wa_int) hG.1 rfl (fun h => h) rfl hM (by decide) (by decide) (by decide) (by decide) (by decide) dX9_init_48 (fun H hM => ?_)
  rw [← e_t16]
  rw [← e_m17] at hM
  obtain ⟨m18, e_m18, h⟩ := bn h
  refine m_putF (T := TX9) hC inW9 tyX9 tyX9_ok nmX9 hG.1 hM 15 e_m18 (by decide) rfl rfl (by decide) rfl flc_X9_26 rfl rfl hin rfl (tyX9_ok 15 (by decide)) (nr_arr _) dX9_init_50 (fun H locs hM => ?_)
  refine lr_aload_n hx hb dX9_init_53 rfl (lv_at hl 0 rfl) ?_
  refine lv_bipush (v := 80) hx hb dX9_init_54 (by decide) ?_
  obtain ⟨t19, e_t19, h⟩ := bd_elim h
  obtain ⟨m20, e_m20, h⟩ := bd_elim h
  refine m_newI (atype := .boolean) (N := 80) 13 3 (by decide) hx hb (hC.2.2.2.2 _ wa_boolean) hG.1 rfl (fun h => h) rfl hM (by decide) (by decide) (by decide) (by decide) (by decide) dX9_init_56 (fun H hM => ?_)
  rw [← e_t19]
  rw [← e_m20] at hM
  obtain ⟨m21, e_m21, h⟩ := bn h
  refine m_putF (T := TX9) hC inW9 tyX9 tyX9_ok nmX9 hG.1 hM 16 e_m21 (by decide) rfl rfl (by decide) rfl flc_X9_29 rfl rfl hin rfl (tyX9_ok 16 (by decide)) (nr_arr _) dX9_init_58 (fun H locs hM => ?_)
  refine lr_aload_n hx hb dX9_init_61 rfl (lv_at hl 0 rfl) ?_
  refine lv_bipush (v := 80) hx hb dX9_init_62 (by decide) ?_
  obtain ⟨t22, e_t22, h⟩ := bd_elim h
  obtain ⟨m23, e_m23, h⟩ := bd_elim h
  refine m_newI (atype := .int) (N := 80) 11 1 (by decide) hx hb (hC.2.2.2.2 _ wa_int) hG.1 rfl (fun h => h) rfl hM (by decide) (by decide) (by decide) (by decide) (by decide) dX9_init_64 (fun H hM => ?_)
  rw [← e_t22]
  rw [← e_m23] at hM
  obtain ⟨m24, e_m24, h⟩ := bn h
  refine m_putF (T := TX9) hC inW9 tyX9 tyX9_ok nmX9 hG.1 hM 17 e_m24 (by decide) rfl rfl (by decide) rfl flc_X9_33 rfl rfl hin rfl (tyX9_ok 17 (by decide)) (nr_arr _) dX9_init_66 (fun H locs hM => ?_)
  refine lr_aload_n hx hb dX9_init_69 rfl (lv_at hl 0 rfl) ?_
  refine lv_bipush (v := 80) hx hb dX9_init_70 (by decide) ?_
  obtain ⟨t25, e_t25, h⟩ := bd_elim h
  obtain ⟨m26, e_m26, h⟩ := bd_elim h
  refine m_newI (atype := .int) (N := 80) 11 1 (by decide) hx hb (hC.2.2.2.2 _ wa_int) hG.1 rfl (fun h => h) rfl hM (by decide) (by decide) (by decide) (by decide) (by decide) dX9_init_72 (fun H hM => ?_)
  rw [← e_t25]
  rw [← e_m26] at hM
  obtain ⟨m27, e_m27, h⟩ := bn h
  refine m_putF (T := TX9) hC inW9 tyX9 tyX9_ok nmX9 hG.1 hM 18 e_m27 (by decide) rfl rfl (by decide) rfl flc_X9_36 rfl rfl hin rfl (tyX9_ok 18 (by decide)) (nr_arr _) dX9_init_74 (fun H locs hM => ?_)
  refine lr_aload_n hx hb dX9_init_77 rfl (lv_at hl 0 rfl) ?_
  refine lv_sipush (v := 240) hx hb dX9_init_78 (by decide) ?_
  obtain ⟨t28, e_t28, h⟩ := bd_elim h
  obtain ⟨m29, e_m29, h⟩ := bd_elim h
  refine m_newI (atype := .int) (N := 240) 11 1 (by decide) hx hb (hC.2.2.2.2 _ wa_int) hG.1 rfl (fun h => h) rfl hM (by decide) (by decide) (by decide) (by decide) (by decide) dX9_init_81 (fun H hM => ?_)
  rw [← e_t28]
  rw [← e_m29] at hM
  obtain ⟨m30, e_m30, h⟩ := bn h
  refine m_putF (T := TX9) hC inW9 tyX9 tyX9_ok nmX9 hG.1 hM 19 e_m30 (by decide) rfl rfl (by decide) rfl flc_X9_39 rfl rfl hin rfl (tyX9_ok 19 (by decide)) (nr_arr _) dX9_init_83 (fun H locs hM => ?_)
  refine lr_aload_n hx hb dX9_init_86 rfl (lv_at hl 0 rfl) ?_
  refine lv_sipush (v := 240) hx hb dX9_init_87 (by decide) ?_
  obtain ⟨t31, e_t31, h⟩ := bd_elim h
  obtain ⟨m32, e_m32, h⟩ := bd_elim h
  refine m_newI (atype := .int) (N := 240) 11 1 (by decide) hx hb (hC.2.2.2.2 _ wa_int) hG.1 rfl (fun h => h) rfl hM (by decide) (by decide) (by decide) (by decide) (by decide) dX9_init_90 (fun H hM => ?_)
  rw [← e_t31]
  rw [← e_m32] at hM
  obtain ⟨m33, e_m33, h⟩ := bn h
  refine m_putF (T := TX9) hC inW9 tyX9 tyX9_ok nmX9 hG.1 hM 20 e_m33 (by decide) rfl rfl (by decide) rfl flc_X9_42 rfl rfl hin rfl (tyX9_ok 20 (by decide)) (nr_arr _) dX9_init_92 (fun H locs hM => ?_)
  refine lr_aload_n hx hb dX9_init_95 rfl (lv_at hl 0 rfl) ?_
  refine lv_bipush (v := 80) hx hb dX9_init_96 (by decide) ?_
  obtain ⟨t34, e_t34, h⟩ := bd_elim h
  obtain ⟨m35, e_m35, h⟩ := bd_elim h
  refine m_newI (atype := .int) (N := 80) 11 1 (by decide) hx hb (hC.2.2.2.2 _ wa_int) hG.1 rfl (fun h => h) rfl hM (by decide) (by decide) (by decide) (by decide) (by decide) dX9_init_98 (fun H hM => ?_)
  rw [← e_t34]
  rw [← e_m35] at hM
  obtain ⟨m36, e_m36, h⟩ := bn h
  refine m_putF (T := TX9) hC inW9 tyX9 tyX9_ok nmX9 hG.1 hM 21 e_m36 (by decide) rfl rfl (by decide) rfl flc_X9_45 rfl rfl hin rfl (tyX9_ok 21 (by decide)) (nr_arr _) dX9_init_100 (fun H locs hM => ?_)
  refine lr_aload_n hx hb dX9_init_103 rfl (lv_at hl 0 rfl) ?_
  refine lv_bipush (v := 8) hx hb dX9_init_104 (by decide) ?_
  obtain ⟨t37, e_t37, h⟩ := bd_elim h
  obtain ⟨m38, e_m38, h⟩ := bd_elim h
  refine m_newI (atype := .int) (N := 8) 11 1 (by decide) hx hb (hC.2.2.2.2 _ wa_int) hG.1 rfl (fun h => h) rfl hM (by decide) (by decide) (by decide) (by decide) (by decide) dX9_init_106 (fun H hM => ?_)
  rw [← e_t37]
  rw [← e_m38] at hM
  obtain ⟨m39, e_m39, h⟩ := bn h
  refine m_putF (T := TX9) hC inW9 tyX9 tyX9_ok nmX9 hG.1 hM 25 e_m39 (by decide) rfl rfl (by decide) rfl flc_X9_48 rfl rfl hin rfl (tyX9_ok 25 (by decide)) (nr_arr _) dX9_init_108 (fun H locs hM => ?_)
  refine lr_aload_n hx hb dX9_init_111 rfl (lv_at hl 0 rfl) ?_
  refine lv_sipush (v := 384) hx hb dX9_init_112 (by decide) ?_
  obtain ⟨t40, e_t40, h⟩ := bd_elim h
  obtain ⟨m41, e_m41, h⟩ := bd_elim h
  refine m_newI (atype := .int) (N := 384) 11 1 (by decide) hx hb (hC.2.2.2.2 _ wa_int) hG.1 rfl (fun h => h) rfl hM (by decide) (by decide) (by decide) (by decide) (by decide) dX9_init_115 (fun H hM => ?_)
  rw [← e_t40]
  rw [← e_m41] at hM
  obtain ⟨m42, e_m42, h⟩ := bn h
  refine m_putF (T := TX9) hC inW9 tyX9 tyX9_ok nmX9 hG.1 hM 27 e_m42 (by decide) rfl rfl (by decide) rfl flc_X9_51 rfl rfl hin rfl (tyX9_ok 27 (by decide)) (nr_arr _) dX9_init_117 (fun H locs hM => ?_)
  refine lr_aload_n hx hb dX9_init_120 rfl (lv_at hl 0 rfl) ?_
  refine lv_sipush (v := 250) hx hb dX9_init_121 (by decide) ?_
  obtain ⟨t43, e_t43, h⟩ := bd_elim h
  obtain ⟨m44, e_m44, h⟩ := bd_elim h
  refine m_newJ (N := 250) hx hb (hC.2.2.2.2 _ wa_long) hG.1 hM (by decide) (by decide) (by decide) (by decide) (by decide) dX9_init_124 (fun H hM => ?_)
  rw [← e_t43]
  rw [← e_m44] at hM
  obtain ⟨m45, e_m45, h⟩ := bn h
  refine m_putF (T := TX9) hC inW9 tyX9 tyX9_ok nmX9 hG.1 hM 29 e_m45 (by decide) rfl rfl (by decide) rfl flc_X9_54 rfl rfl hin rfl (tyX9_ok 29 (by decide)) (nr_arr _) dX9_init_126 (fun H locs hM => ?_)
  refine lr_aload_n hx hb dX9_init_129 rfl (lv_at hl 0 rfl) ?_
  refine lv_sipush (v := 250) hx hb dX9_init_130 (by decide) ?_
  obtain ⟨t46, e_t46, h⟩ := bd_elim h
  obtain ⟨m47, e_m47, h⟩ := bd_elim h
  refine m_newJ (N := 250) hx hb (hC.2.2.2.2 _ wa_long) hG.1 hM (by decide) (by decide) (by decide) (by decide) (by decide) dX9_init_133 (fun H hM => ?_)
  rw [← e_t46]
  rw [← e_m47] at hM
  obtain ⟨m48, e_m48, h⟩ := bn h
  refine m_putF (T := TX9) hC inW9 tyX9 tyX9_ok nmX9 hG.1 hM 30 e_m48 (by decide) rfl rfl (by decide) rfl flc_X9_57 rfl rfl hin rfl (tyX9_ok 30 (by decide)) (nr_arr _) dX9_init_135 (fun H locs hM => ?_)
  refine lr_aload_n hx hb dX9_init_138 rfl (lv_at hl 0 rfl) ?_
  refine lv_sipush (v := 6000) hx hb dX9_init_139 (by decide) ?_
  obtain ⟨t49, e_t49, h⟩ := bd_elim h
  obtain ⟨m50, e_m50, h⟩ := bd_elim h
  refine m_newI (atype := .int) (N := 6000) 11 1 (by decide) hx hb (hC.2.2.2.2 _ wa_int) hG.1 rfl (fun h => h) rfl hM (by decide) (by decide) (by decide) (by decide) (by decide) dX9_init_142 (fun H hM => ?_)
  rw [← e_t49]
  rw [← e_m50] at hM
  obtain ⟨m51, e_m51, h⟩ := bn h
  refine m_putF (T := TX9) hC inW9 tyX9 tyX9_ok nmX9 hG.1 hM 31 e_m51 (by decide) rfl rfl (by decide) rfl flc_X9_60 rfl rfl hin rfl (tyX9_ok 31 (by decide)) (nr_arr _) dX9_init_144 (fun H locs hM => ?_)
  refine lr_aload_n hx hb dX9_init_147 rfl (lv_at hl 0 rfl) ?_
  refine lv_sipush (v := 6000) hx hb dX9_init_148 (by decide) ?_
  obtain ⟨t52, e_t52, h⟩ := bd_elim h
  obtain ⟨m53, e_m53, h⟩ := bd_elim h
  refine m_newI (atype := .int) (N := 6000) 11 1 (by decide) hx hb (hC.2.2.2.2 _ wa_int) hG.1 rfl (fun h => h) rfl hM (by decide) (by decide) (by decide) (by decide) (by decide) dX9_init_151 (fun H hM => ?_)
  rw [← e_t52]
  rw [← e_m53] at hM
  obtain ⟨m54, e_m54, h⟩ := bn h
  refine m_putF (T := TX9) hC inW9 tyX9 tyX9_ok nmX9 hG.1 hM 32 e_m54 (by decide) rfl rfl (by decide) rfl flc_X9_63 rfl rfl hin rfl (tyX9_ok 32 (by decide)) (nr_arr _) dX9_init_153 (fun H locs hM => ?_)
  refine lr_aload_n hx hb dX9_init_156 rfl (lv_at hl 0 rfl) ?_
  refine lv_bipush (v := 24) hx hb dX9_init_157 (by decide) ?_
  obtain ⟨t55, e_t55, h⟩ := bd_elim h
  obtain ⟨m56, e_m56, h⟩ := bd_elim h
  refine m_newI (atype := .int) (N := 24) 11 1 (by decide) hx hb (hC.2.2.2.2 _ wa_int) hG.1 rfl (fun h => h) rfl hM (by decide) (by decide) (by decide) (by decide) (by decide) dX9_init_159 (fun H hM => ?_)
  rw [← e_t55]
  rw [← e_m56] at hM
  obtain ⟨m57, e_m57, h⟩ := bn h
  refine m_putF (T := TX9) hC inW9 tyX9 tyX9_ok nmX9 hG.1 hM 33 e_m57 (by decide) rfl rfl (by decide) rfl flc_X9_66 rfl rfl hin rfl (tyX9_ok 33 (by decide)) (nr_arr _) dX9_init_161 (fun H locs hM => ?_)
  refine lr_aload_n hx hb dX9_init_164 rfl (lv_at hl 0 rfl) ?_
  refine lv_bipush (v := 16) hx hb dX9_init_165 (by decide) ?_
  obtain ⟨t58, e_t58, h⟩ := bd_elim h
  obtain ⟨m59, e_m59, h⟩ := bd_elim h
  refine m_newJ (N := 16) hx hb (hC.2.2.2.2 _ wa_long) hG.1 hM (by decide) (by decide) (by decide) (by decide) (by decide) dX9_init_167 (fun H hM => ?_)
  rw [← e_t58]
  rw [← e_m59] at hM
  obtain ⟨m60, e_m60, h⟩ := bn h
  refine m_putF (T := TX9) hC inW9 tyX9 tyX9_ok nmX9 hG.1 hM 36 e_m60 (by decide) rfl rfl (by decide) rfl flc_X9_69 rfl rfl hin rfl (tyX9_ok 36 (by decide)) (nr_arr _) dX9_init_169 (fun H locs hM => ?_)
  refine lr_aload_n hx hb dX9_init_172 rfl (lv_at hl 0 rfl) ?_
  refine lv_bipush (v := 16) hx hb dX9_init_173 (by decide) ?_
  obtain ⟨t61, e_t61, h⟩ := bd_elim h
  obtain ⟨m62, e_m62, h⟩ := bd_elim h
  refine m_newJ (N := 16) hx hb (hC.2.2.2.2 _ wa_long) hG.1 hM (by decide) (by decide) (by decide) (by decide) (by decide) dX9_init_175 (fun H hM => ?_)
  rw [← e_t61]
  rw [← e_m62] at hM
  obtain ⟨m63, e_m63, h⟩ := bn h
  refine m_putF (T := TX9) hC inW9 tyX9 tyX9_ok nmX9 hG.1 hM 37 e_m63 (by decide) rfl rfl (by decide) rfl flc_X9_72 rfl rfl hin rfl (tyX9_ok 37 (by decide)) (nr_arr _) dX9_init_177 (fun H locs hM => ?_)
  refine lr_aload_n hx hb dX9_init_180 rfl (lv_at hl 0 rfl) ?_
  refine lv_bipush (v := 16) hx hb dX9_init_181 (by decide) ?_
  obtain ⟨t64, e_t64, h⟩ := bd_elim h
  obtain ⟨m65, e_m65, h⟩ := bd_elim h
  refine m_newI (atype := .int) (N := 16) 11 1 (by decide) hx hb (hC.2.2.2.2 _ wa_int) hG.1 rfl (fun h => h) rfl hM (by decide) (by decide) (by decide) (by decide) (by decide) dX9_init_183 (fun H hM => ?_)
  rw [← e_t64]
  rw [← e_m65] at hM
  obtain ⟨m66, e_m66, h⟩ := bn h
  refine m_putF (T := TX9) hC inW9 tyX9 tyX9_ok nmX9 hG.1 hM 38 e_m66 (by decide) rfl rfl (by decide) rfl flc_X9_75 rfl rfl hin rfl (tyX9_ok 38 (by decide)) (nr_arr _) dX9_init_185 (fun H locs hM => ?_)
  refine lr_aload_n hx hb dX9_init_188 rfl (lv_at hl 0 rfl) ?_
  refine lv_iconst (v := 4) hx hb dX9_init_189 (by decide) ?_
  obtain ⟨t67, e_t67, h⟩ := bd_elim h
  obtain ⟨m68, e_m68, h⟩ := bd_elim h
  refine m_newI (atype := .int) (N := 4) 11 1 (by decide) hx hb (hC.2.2.2.2 _ wa_int) hG.1 rfl (fun h => h) rfl hM (by decide) (by decide) (by decide) (by decide) (by decide) dX9_init_190 (fun H hM => ?_)
  rw [← e_t67]
  rw [← e_m68] at hM
  obtain ⟨m69, e_m69, h⟩ := bn h
  refine m_putF (T := TX9) hC inW9 tyX9 tyX9_ok nmX9 hG.1 hM 39 e_m69 (by decide) rfl rfl (by decide) rfl flc_X9_78 rfl rfl hin rfl (tyX9_ok 39 (by decide)) (nr_arr _) dX9_init_192 (fun H locs hM => ?_)
  refine lr_aload_n hx hb dX9_init_195 rfl (lv_at hl 0 rfl) ?_
  refine lv_iconst (v := 4) hx hb dX9_init_196 (by decide) ?_
  obtain ⟨t70, e_t70, h⟩ := bd_elim h
  obtain ⟨m71, e_m71, h⟩ := bd_elim h
  refine m_newI (atype := .int) (N := 4) 11 1 (by decide) hx hb (hC.2.2.2.2 _ wa_int) hG.1 rfl (fun h => h) rfl hM (by decide) (by decide) (by decide) (by decide) (by decide) dX9_init_197 (fun H hM => ?_)
  rw [← e_t70]
  rw [← e_m71] at hM
  obtain ⟨m72, e_m72, h⟩ := bn h
  refine m_putF (T := TX9) hC inW9 tyX9 tyX9_ok nmX9 hG.1 hM 40 e_m72 (by decide) rfl rfl (by decide) rfl flc_X9_81 rfl rfl hin rfl (tyX9_ok 40 (by decide)) (nr_arr _) dX9_init_199 (fun H locs hM => ?_)
  refine lr_aload_n hx hb dX9_init_202 rfl (lv_at hl 0 rfl) ?_
  refine lv_iconst (v := 4) hx hb dX9_init_203 (by decide) ?_
  obtain ⟨t73, e_t73, h⟩ := bd_elim h
  obtain ⟨m74, e_m74, h⟩ := bd_elim h
  refine m_newI (atype := .int) (N := 4) 11 1 (by decide) hx hb (hC.2.2.2.2 _ wa_int) hG.1 rfl (fun h => h) rfl hM (by decide) (by decide) (by decide) (by decide) (by decide) dX9_init_204 (fun H hM => ?_)
  rw [← e_t73]
  rw [← e_m74] at hM
  obtain ⟨m75, e_m75, h⟩ := bn h
  refine m_putF (T := TX9) hC inW9 tyX9 tyX9_ok nmX9 hG.1 hM 41 e_m75 (by decide) rfl rfl (by decide) rfl flc_X9_84 rfl rfl hin rfl (tyX9_ok 41 (by decide)) (nr_arr _) dX9_init_206 (fun H locs hM => ?_)
  obtain rfl := Option.some.inj h
  exact Kr _ _ _ _ dX9_init_209 hM
theorem cX9_init_ok {l : Launch} {D : va_G} {cy : Nat → ClassId} {z0 : Nat} {A : Nat → Prop} {o0 : Nat} {σ σ' : Mem} (h : fX9_init o0 σ = some σ') : CtN l yX9_init cX9_init 1 1 25 14716 [.ref (adz z0 o0)] D cy z0 A σ σ' :=
  enterN (own := RX9) (by decide) rfl rfl (Nat.le_of_ble_eq_true rfl) (fun p e s m below meth c Q ls hC hG hM hin Kr hl => wX9_init hC hG hin Kr _ _ _ _ _ h hM hl)
