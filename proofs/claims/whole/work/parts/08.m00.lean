theorem vcI (x : Int32) : (Value.int x).category = 1 := rfl
theorem vcL (x : Int64) : (Value.long x).category = 2 := rfl
theorem vcR (x : Nat) : (Value.ref x).category = 1 := rfl
section WK
variable {p : Program} {l : Launch} {e : Env} {R : Room} {s : State} {m : MethodId} {args : Array Value} {below : List Frame} {meth : Method} {c : Code} {Q : State → Prop}
variable {D : va_G} {cy : Nat → ClassId} {ad : Nat → Nat} {A : Nat → Prop} {z : Nat}
/-! X0_addStep (I)V -/
def fX0_addStep_b45    (σ : Mem) : Option (Mem) :=
  some σ
set_option maxRecDepth 20000 in
theorem wX0_addStep_b45 {σ' : Mem} (hC : CallFix p m c cX0_addStep 2 s args WALL RX0) (hG : GS D cy A s) (hR : 0 ≤ R.frames ∧ 0 ≤ R.locals) (Kr : KrV p l e R s m args below meth c cX0_addStep Q D cy ad A z () σ')    (σ : Mem) (H : Heap) (locs : List Loc) (ls : Array Slot) (h : fX0_addStep_b45  σ = some σ') (hM : MS D cy ad A s.heap z σ H locs) (hl : lv_has ls 2 []) : W p l e R s m args below meth c H locs 0 0 Q (F0 m 45 ls []) := by
  have hx := hC.1
  have hb := hC.2.1
  unfold fX0_addStep_b45 at h
  cases h
  exact Kr _ _ _ _ dX0_addStep_45 hM
def fX0_addStep (o0 : Nat) (x1 : Int32) (σ : Mem) : Option (Mem) :=
  (fI σ 0 3 (some o0)).bind fun t1 =>
    if t1 < 0 then fX0_addStep_b45 σ
    else (fI σ 0 3 (some o0)).bind fun t3 =>
      if 3 ≤ t3 then fX0_addStep_b45 σ
      else (fR σ 0 0 (some o0)).bind fun t5 =>
        (fI σ 0 3 (some o0)).bind fun t6 =>
        (wI σ 11 t5 t6 x1).bind fun m7 =>
        (fR m7 0 1 (some o0)).bind fun t8 =>
        (fI m7 0 3 (some o0)).bind fun t9 =>
        (wI m7 11 t8 t9 0).bind fun m10 =>
        (fI m10 0 3 (some o0)).bind fun t11 =>
        (pI m10 0 3 (some o0) (t11 + 1)).bind fun m12 =>
        fX0_addStep_b45 m12
set_option maxRecDepth 20000 in
theorem wX0_addStep {σ' : Mem} (hC : CallFix p m c cX0_addStep 2 s args WALL RX0) (hG : GS D cy A s) (hR : 0 ≤ R.frames ∧ 0 ≤ R.locals) (Kr : KrV p l e R s m args below meth c cX0_addStep Q D cy ad A z () σ') (o0 : Nat) (x1 : Int32) (σ : Mem) (H : Heap) (locs : List Loc) (ls : Array Slot) (h : fX0_addStep o0 x1 σ = some σ') (hM : MS D cy ad A s.heap z σ H locs) (hl : lv_has ls 2 [(0, va_rf (Option.map ad (some o0))), (1, .int x1)]) : W p l e R s m args below meth c H locs 0 0 Q (F0 m 0 ls []) := by
  have hx := hC.1
  have hb := hC.2.1
  unfold fX0_addStep at h
  refine lr_aload_n hx hb dX0_addStep_0 rfl (lv_at hl 0 rfl) ?_
  obtain ⟨t1, e_t1, h⟩ := bn h
  refine gf_X0_22 hC hG hM e_t1 dX0_addStep_1 ?_
  refine lv_if_lt (tgt := 45) hx hb dX0_addStep_4 (by decide) (fun c2 => ?_) (fun c2 => ?_)
  · rw [if_pos c2] at h
    exact wX0_addStep_b45 hC hG hR Kr _ _ _ _ h hM (lv_sub hl [] rfl)
  · rw [if_neg c2] at h
    refine lr_aload_n hx hb dX0_addStep_7 rfl (lv_at hl 0 rfl) ?_
    obtain ⟨t3, e_t3, h⟩ := bn h
    refine gf_X0_22 hC hG hM e_t3 dX0_addStep_8 ?_
    refine lv_iconst (v := 3) hx hb dX0_addStep_11 (by decide) ?_
    refine lv_icmp_ge (tgt := 45) hx hb dX0_addStep_12 (by decide) (fun c4 => ?_) (fun c4 => ?_)
    · rw [if_pos c4] at h
      exact wX0_addStep_b45 hC hG hR Kr _ _ _ _ h hM (lv_sub hl [] rfl)
    · rw [if_neg c4] at h
      refine lr_aload_n hx hb dX0_addStep_15 rfl (lv_at hl 0 rfl) ?_
      obtain ⟨t5, e_t5, h⟩ := bn h
      refine gf_X0_9 hC hG hM e_t5 dX0_addStep_16 ?_
      refine lr_aload_n hx hb dX0_addStep_19 rfl (lv_at hl 0 rfl) ?_
      obtain ⟨t6, e_t6, h⟩ := bn h
      refine gf_X0_22 hC hG hM e_t6 dX0_addStep_20 ?_
      refine lv_iload_n hx hb dX0_addStep_23 rfl (lv_at hl 1 rfl) ?_
      obtain ⟨m7, e_m7, h⟩ := bn h
      refine g_iast hx hb hG hM e_m7 dX0_addStep_24 (fun H locs hM => ?_)
      refine lr_aload_n hx hb dX0_addStep_25 rfl (lv_at hl 0 rfl) ?_
      obtain ⟨t8, e_t8, h⟩ := bn h
      refine gf_X0_15 hC hG hM e_t8 dX0_addStep_26 ?_
      refine lr_aload_n hx hb dX0_addStep_29 rfl (lv_at hl 0 rfl) ?_
      obtain ⟨t9, e_t9, h⟩ := bn h
      refine gf_X0_22 hC hG hM e_t9 dX0_addStep_30 ?_
      refine lv_iconst (v := 0) hx hb dX0_addStep_33 (by decide) ?_
      obtain ⟨m10, e_m10, h⟩ := bn h
      refine g_iast hx hb hG hM e_m10 dX0_addStep_34 (fun H locs hM => ?_)
      refine lr_aload_n hx hb dX0_addStep_35 rfl (lv_at hl 0 rfl) ?_
      refine lv_dup hx hb dX0_addStep_36 (va_cat _) ?_
      obtain ⟨t11, e_t11, h⟩ := bn h
      refine gf_X0_22 hC hG hM e_t11 dX0_addStep_37 ?_
      refine lv_iconst (v := 1) hx hb dX0_addStep_40 (by decide) ?_
      refine lv_iadd hx hb dX0_addStep_41 ?_
      obtain ⟨m12, e_m12, h⟩ := bn h
      refine pf_X0_22 hC hG hM e_m12 dX0_addStep_42 (fun H locs hM => ?_)
      exact wX0_addStep_b45 hC hG hR Kr _ _ _ _ h hM (lv_sub hl [] rfl)
theorem cX0_addStep_ok {l : Launch} {D : va_G} {cy : Nat → ClassId} {ad : Nat → Nat} {A : Nat → Prop} {z : Nat} {σ' : Mem} {o0 : Nat} {x1 : Int32} {σ : Mem} (h : fX0_addStep o0 x1 σ = some σ') : CtV l yX0_addStep cX0_addStep 2 none 0 [.ref (ad o0), .int x1] D cy ad A z σ () σ' :=
  enterV (own := RX0) (by decide) rfl (Nat.le_of_ble_eq_true rfl) rfl (fun p e s m below meth c Q ls hC hG hM Kr hl => wX0_addStep hC hG ⟨Nat.le_refl _, Nat.le_refl _⟩ Kr _ _ _ _ _ _ h hM hl)
/-! X0_clear ()V -/
def fX0_clear (o0 : Nat) (σ : Mem) : Option (Mem) :=
  (pI σ 0 2 (some o0) 0).bind fun m1 =>
    (pI m1 0 3 (some o0) 0).bind fun m2 =>
    (pI m2 0 4 (some o0) 0).bind fun m3 =>
    some m3
set_option maxRecDepth 20000 in
theorem wX0_clear {σ' : Mem} (hC : CallFix p m c cX0_clear 1 s args WALL RX0) (hG : GS D cy A s) (hR : 0 ≤ R.frames ∧ 0 ≤ R.locals) (Kr : KrV p l e R s m args below meth c cX0_clear Q D cy ad A z () σ') (o0 : Nat) (σ : Mem) (H : Heap) (locs : List Loc) (ls : Array Slot) (h : fX0_clear o0 σ = some σ') (hM : MS D cy ad A s.heap z σ H locs) (hl : lv_has ls 1 [(0, va_rf (Option.map ad (some o0)))]) : W p l e R s m args below meth c H locs 0 0 Q (F0 m 0 ls []) := by
  have hx := hC.1
  have hb := hC.2.1
  unfold fX0_clear at h
  refine lr_aload_n hx hb dX0_clear_0 rfl (lv_at hl 0 rfl) ?_
  refine lv_iconst (v := 0) hx hb dX0_clear_1 (by decide) ?_
  obtain ⟨m1, e_m1, h⟩ := bn h
  refine pf_X0_18 hC hG hM e_m1 dX0_clear_2 (fun H locs hM => ?_)
  refine lr_aload_n hx hb dX0_clear_5 rfl (lv_at hl 0 rfl) ?_
  refine lv_iconst (v := 0) hx hb dX0_clear_6 (by decide) ?_
  obtain ⟨m2, e_m2, h⟩ := bn h
  refine pf_X0_22 hC hG hM e_m2 dX0_clear_7 (fun H locs hM => ?_)
  refine lr_aload_n hx hb dX0_clear_10 rfl (lv_at hl 0 rfl) ?_
  refine lv_iconst (v := 0) hx hb dX0_clear_11 (by decide) ?_
  obtain ⟨m3, e_m3, h⟩ := bn h
  refine pf_X0_25 hC hG hM e_m3 dX0_clear_12 (fun H locs hM => ?_)
  cases h
  exact Kr _ _ _ _ dX0_clear_15 hM
theorem cX0_clear_ok {l : Launch} {D : va_G} {cy : Nat → ClassId} {ad : Nat → Nat} {A : Nat → Prop} {z : Nat} {σ' : Mem} {o0 : Nat} {σ : Mem} (h : fX0_clear o0 σ = some σ') : CtV l yX0_clear cX0_clear 1 none 0 [.ref (ad o0)] D cy ad A z σ () σ' :=
  enterV (own := RX0) (by decide) rfl (Nat.le_of_ble_eq_true rfl) rfl (fun p e s m below meth c Q ls hC hG hM Kr hl => wX0_clear hC hG ⟨Nat.le_refl _, Nat.le_refl _⟩ Kr _ _ _ _ _ h hM hl)
/-! X0_corner (I)I -/
def fX0_corner_b43   (y0 : Int32) (σ : Mem) : Option (Int32 × Mem) :=
  some (y0, σ)
set_option maxRecDepth 20000 in
theorem wX0_corner_b43 {r : Int32} {σ' : Mem} (hC : CallFix p m c cX0_corner 2 s args WALL RX0) (hG : GS D cy A s) (hR : 0 ≤ R.frames ∧ 0 ≤ R.locals) (Kr : KrI p l e R s m args below meth c cX0_corner Q D cy ad A z r σ')   (y0 : Int32) (σ : Mem) (H : Heap) (locs : List Loc) (ls : Array Slot) (h : fX0_corner_b43 y0 σ = some (r, σ')) (hM : MS D cy ad A s.heap z σ H locs) (hl : lv_has ls 2 []) : W p l e R s m args below meth c H locs 0 0 Q (F0 m 43 ls [.int y0]) := by
  have hx := hC.1
  have hb := hC.2.1
  unfold fX0_corner_b43 at h
  obtain ⟨rfl, rfl⟩ := Prod.mk.inj (Option.some.inj h)
  exact Kr _ _ _ _ dX0_corner_43 hM
def fX0_corner_b26    (σ : Mem) : Option (Int32 × Mem) :=
  fX0_corner_b43 (-1) σ
set_option maxRecDepth 20000 in
theorem wX0_corner_b26 {r : Int32} {σ' : Mem} (hC : CallFix p m c cX0_corner 2 s args WALL RX0) (hG : GS D cy A s) (hR : 0 ≤ R.frames ∧ 0 ≤ R.locals) (Kr : KrI p l e R s m args below meth c cX0_corner Q D cy ad A z r σ')    (σ : Mem) (H : Heap) (locs : List Loc) (ls : Array Slot) (h : fX0_corner_b26  σ = some (r, σ')) (hM : MS D cy ad A s.heap z σ H locs) (hl : lv_has ls 2 []) : W p l e R s m args below meth c H locs 0 0 Q (F0 m 26 ls []) := by
  have hx := hC.1
  have hb := hC.2.1
  unfold fX0_corner_b26 at h
  refine lv_iconst (v := (-1)) hx hb dX0_corner_26 (by decide) ?_
  refine lv_goto (tgt := 43) hx hb dX0_corner_27 (by decide) ?_
  exact wX0_corner_b43 hC hG hR Kr _ _ _ _ _ h hM (lv_sub hl [] rfl)
def fX0_corner (o0 : Nat) (x1 : Int32) (σ : Mem) : Option (Int32 × Mem) :=
  if x1 = 0 then (fI σ 0 2 (some o0)).bind fun t9 =>
      some (t9, σ)
    else if x1 < 0 then fX0_corner_b26 σ
      else (fI σ 0 3 (some o0)).bind fun t3 =>
        if t3 < x1 then fX0_corner_b26 σ
        else if x1 ≤ 3 then (fI σ 0 2 (some o0)).bind fun t6 =>
            (fR σ 0 0 (some o0)).bind fun t7 =>
            (aI σ 11 t7 (x1 - 1)).bind fun t8 =>
            fX0_corner_b43 (t6 + t8) σ
          else fX0_corner_b26 σ
set_option maxRecDepth 20000 in
theorem wX0_corner {r : Int32} {σ' : Mem} (hC : CallFix p m c cX0_corner 2 s args WALL RX0) (hG : GS D cy A s) (hR : 0 ≤ R.frames ∧ 0 ≤ R.locals) (Kr : KrI p l e R s m args below meth c cX0_corner Q D cy ad A z r σ') (o0 : Nat) (x1 : Int32) (σ : Mem) (H : Heap) (locs : List Loc) (ls : Array Slot) (h : fX0_corner o0 x1 σ = some (r, σ')) (hM : MS D cy ad A s.heap z σ H locs) (hl : lv_has ls 2 [(0, va_rf (Option.map ad (some o0))), (1, .int x1)]) : W p l e R s m args below meth c H locs 0 0 Q (F0 m 0 ls []) := by
  have hx := hC.1
  have hb := hC.2.1
  unfold fX0_corner at h
  refine lv_iload_n hx hb dX0_corner_0 rfl (lv_at hl 1 rfl) ?_
  refine lv_if_ne (tgt := 9) hx hb dX0_corner_1 (by decide) (fun c1 => ?_) (fun c1 => ?_)
  · rw [if_neg c1] at h
    refine lv_iload_n hx hb dX0_corner_9 rfl (lv_at hl 1 rfl) ?_
    refine lv_if_lt (tgt := 26) hx hb dX0_corner_10 (by decide) (fun c2 => ?_) (fun c2 => ?_)
    · rw [if_pos c2] at h
      exact wX0_corner_b26 hC hG hR Kr _ _ _ _ h hM (lv_sub hl [] rfl)
    · rw [if_neg c2] at h
      refine lv_iload_n hx hb dX0_corner_13 rfl (lv_at hl 1 rfl) ?_
      refine lr_aload_n hx hb dX0_corner_14 rfl (lv_at hl 0 rfl) ?_
      obtain ⟨t3, e_t3, h⟩ := bn h
      refine gf_X0_22 hC hG hM e_t3 dX0_corner_15 ?_
      refine lv_icmp_gt (tgt := 26) hx hb dX0_corner_18 (by decide) (fun c4 => ?_) (fun c4 => ?_)
      · rw [if_pos c4] at h
        exact wX0_corner_b26 hC hG hR Kr _ _ _ _ h hM (lv_sub hl [] rfl)
      · rw [if_neg c4] at h
        refine lv_iload_n hx hb dX0_corner_21 rfl (lv_at hl 1 rfl) ?_
        refine lv_iconst (v := 3) hx hb dX0_corner_22 (by decide) ?_
        refine lv_icmp_le (tgt := 30) hx hb dX0_corner_23 (by decide) (fun c5 => ?_) (fun c5 => ?_)
        · rw [if_pos c5] at h
          refine lr_aload_n hx hb dX0_corner_30 rfl (lv_at hl 0 rfl) ?_
          obtain ⟨t6, e_t6, h⟩ := bn h
          refine gf_X0_18 hC hG hM e_t6 dX0_corner_31 ?_
          refine lr_aload_n hx hb dX0_corner_34 rfl (lv_at hl 0 rfl) ?_
          obtain ⟨t7, e_t7, h⟩ := bn h
          refine gf_X0_9 hC hG hM e_t7 dX0_corner_35 ?_
          refine lv_iload_n hx hb dX0_corner_38 rfl (lv_at hl 1 rfl) ?_
          refine lv_iconst (v := 1) hx hb dX0_corner_39 (by decide) ?_
          refine lv_isub hx hb dX0_corner_40 ?_
          obtain ⟨t8, e_t8, h⟩ := bn h
          refine g_iald hx hb hG hM e_t8 dX0_corner_41 ?_
          refine lv_iadd hx hb dX0_corner_42 ?_
          exact wX0_corner_b43 hC hG hR Kr _ _ _ _ _ h hM (lv_sub hl [] rfl)
        · rw [if_neg c5] at h
          exact wX0_corner_b26 hC hG hR Kr _ _ _ _ h hM (lv_sub hl [] rfl)
  · rw [if_pos c1] at h
    refine lr_aload_n hx hb dX0_corner_4 rfl (lv_at hl 0 rfl) ?_
    obtain ⟨t9, e_t9, h⟩ := bn h
    refine gf_X0_18 hC hG hM e_t9 dX0_corner_5 ?_
    obtain ⟨rfl, rfl⟩ := Prod.mk.inj (Option.some.inj h)
    exact Kr _ _ _ _ dX0_corner_8 hM
theorem cX0_corner_ok {l : Launch} {D : va_G} {cy : Nat → ClassId} {ad : Nat → Nat} {A : Nat → Prop} {z : Nat} {r : Int32} {σ' : Mem} {o0 : Nat} {x1 : Int32} {σ : Mem} (h : fX0_corner o0 x1 σ = some (r, σ')) : CtI l yX0_corner cX0_corner 2 (some .int) 0 [.ref (ad o0), .int x1] D cy ad A z σ r σ' :=
  enterI (own := RX0) (by decide) rfl (Nat.le_of_ble_eq_true rfl) rfl (fun p e s m below meth c Q ls hC hG hM Kr hl => wX0_corner hC hG ⟨Nat.le_refl _, Nat.le_refl _⟩ Kr _ _ _ _ _ _ h hM hl)
/-! X0_lastEnd ()I -/
def fX0_lastEnd_b31   (y0 : Int32) (σ : Mem) : Option (Int32 × Mem) :=
  some (y0, σ)
set_option maxRecDepth 20000 in
theorem wX0_lastEnd_b31 {r : Int32} {σ' : Mem} (hC : CallFix p m c cX0_lastEnd 1 s args WALL RX0) (hG : GS D cy A s) (hR : 0 ≤ R.frames ∧ 0 ≤ R.locals) (Kr : KrI p l e R s m args below meth c cX0_lastEnd Q D cy ad A z r σ')   (y0 : Int32) (σ : Mem) (H : Heap) (locs : List Loc) (ls : Array Slot) (h : fX0_lastEnd_b31 y0 σ = some (r, σ')) (hM : MS D cy ad A s.heap z σ H locs) (hl : lv_has ls 1 []) : W p l e R s m args below meth c H locs 0 0 Q (F0 m 31 ls [.int y0]) := by
  have hx := hC.1
  have hb := hC.2.1
  unfold fX0_lastEnd_b31 at h
  obtain ⟨rfl, rfl⟩ := Prod.mk.inj (Option.some.inj h)
  exact Kr _ _ _ _ dX0_lastEnd_31 hM
def fX0_lastEnd_b16    (σ : Mem) : Option (Int32 × Mem) :=
  fX0_lastEnd_b31 0 σ
set_option maxRecDepth 20000 in
theorem wX0_lastEnd_b16 {r : Int32} {σ' : Mem} (hC : CallFix p m c cX0_lastEnd 1 s args WALL RX0) (hG : GS D cy A s) (hR : 0 ≤ R.frames ∧ 0 ≤ R.locals) (Kr : KrI p l e R s m args below meth c cX0_lastEnd Q D cy ad A z r σ')    (σ : Mem) (H : Heap) (locs : List Loc) (ls : Array Slot) (h : fX0_lastEnd_b16  σ = some (r, σ')) (hM : MS D cy ad A s.heap z σ H locs) (hl : lv_has ls 1 []) : W p l e R s m args below meth c H locs 0 0 Q (F0 m 16 ls []) := by
  have hx := hC.1
  have hb := hC.2.1
  unfold fX0_lastEnd_b16 at h
  refine lv_iconst (v := 0) hx hb dX0_lastEnd_16 (by decide) ?_
  refine lv_goto (tgt := 31) hx hb dX0_lastEnd_17 (by decide) ?_
  exact wX0_lastEnd_b31 hC hG hR Kr _ _ _ _ _ h hM (lv_sub hl [] rfl)
def fX0_lastEnd (o0 : Nat) (σ : Mem) : Option (Int32 × Mem) :=
  (fI σ 0 3 (some o0)).bind fun t1 =>
    if t1 < 1 then fX0_lastEnd_b16 σ
    else (fI σ 0 3 (some o0)).bind fun t3 =>
      if t3 ≤ 3 then (fR σ 0 0 (some o0)).bind fun t5 =>
        (fI σ 0 3 (some o0)).bind fun t6 =>
        (aI σ 11 t5 (t6 - 1)).bind fun t7 =>
        fX0_lastEnd_b31 t7 σ
      else fX0_lastEnd_b16 σ
set_option maxRecDepth 20000 in
theorem wX0_lastEnd {r : Int32} {σ' : Mem} (hC : CallFix p m c cX0_lastEnd 1 s args WALL RX0) (hG : GS D cy A s) (hR : 0 ≤ R.frames ∧ 0 ≤ R.locals) (Kr : KrI p l e R s m args below meth c cX0_lastEnd Q D cy ad A z r σ') (o0 : Nat) (σ : Mem) (H : Heap) (locs : List Loc) (ls : Array Slot) (h : fX0_lastEnd o0 σ = some (r, σ')) (hM : MS D cy ad A s.heap z σ H locs) (hl : lv_has ls 1 [(0, va_rf (Option.map ad (some o0)))]) : W p l e R s m args below meth c H locs 0 0 Q (F0 m 0 ls []) := by
  have hx := hC.1
  have hb := hC.2.1
  unfold fX0_lastEnd at h
  refine lr_aload_n hx hb dX0_lastEnd_0 rfl (lv_at hl 0 rfl) ?_
  obtain ⟨t1, e_t1, h⟩ := bn h
  refine gf_X0_22 hC hG hM e_t1 dX0_lastEnd_1 ?_
  refine lv_iconst (v := 1) hx hb dX0_lastEnd_4 (by decide) ?_
  refine lv_icmp_lt (tgt := 16) hx hb dX0_lastEnd_5 (by decide) (fun c2 => ?_) (fun c2 => ?_)
  · rw [if_pos c2] at h
    exact wX0_lastEnd_b16 hC hG hR Kr _ _ _ _ h hM (lv_sub hl [] rfl)
  · rw [if_neg c2] at h
    refine lr_aload_n hx hb dX0_lastEnd_8 rfl (lv_at hl 0 rfl) ?_
    obtain ⟨t3, e_t3, h⟩ := bn h
    refine gf_X0_22 hC hG hM e_t3 dX0_lastEnd_9 ?_
    refine lv_iconst (v := 3) hx hb dX0_lastEnd_12 (by decide) ?_
    refine lv_icmp_le (tgt := 20) hx hb dX0_lastEnd_13 (by decide) (fun c4 => ?_) (fun c4 => ?_)
    · rw [if_pos c4] at h
      refine lr_aload_n hx hb dX0_lastEnd_20 rfl (lv_at hl 0 rfl) ?_
      obtain ⟨t5, e_t5, h⟩ := bn h
      refine gf_X0_9 hC hG hM e_t5 dX0_lastEnd_21 ?_
      refine lr_aload_n hx hb dX0_lastEnd_24 rfl (lv_at hl 0 rfl) ?_
      obtain ⟨t6, e_t6, h⟩ := bn h
      refine gf_X0_22 hC hG hM e_t6 dX0_lastEnd_25 ?_
      refine lv_iconst (v := 1) hx hb dX0_lastEnd_28 (by decide) ?_
      refine lv_isub hx hb dX0_lastEnd_29 ?_
      obtain ⟨t7, e_t7, h⟩ := bn h
      refine g_iald hx hb hG hM e_t7 dX0_lastEnd_30 ?_
      exact wX0_lastEnd_b31 hC hG hR Kr _ _ _ _ _ h hM (lv_sub hl [] rfl)
    · rw [if_neg c4] at h
      exact wX0_lastEnd_b16 hC hG hR Kr _ _ _ _ h hM (lv_sub hl [] rfl)
theorem cX0_lastEnd_ok {l : Launch} {D : va_G} {cy : Nat → ClassId} {ad : Nat → Nat} {A : Nat → Prop} {z : Nat} {r : Int32} {σ' : Mem} {o0 : Nat} {σ : Mem} (h : fX0_lastEnd o0 σ = some (r, σ')) : CtI l yX0_lastEnd cX0_lastEnd 1 (some .int) 0 [.ref (ad o0)] D cy ad A z σ r σ' :=
  enterI (own := RX0) (by decide) rfl (Nat.le_of_ble_eq_true rfl) rfl (fun p e s m below meth c Q ls hC hG hM Kr hl => wX0_lastEnd hC hG ⟨Nat.le_refl _, Nat.le_refl _⟩ Kr _ _ _ _ _ h hM hl)
/-! X0_priceLastStep (I)V -/
def fX0_priceLastStep_b28    (σ : Mem) : Option (Mem) :=
  some σ
set_option maxRecDepth 20000 in
theorem wX0_priceLastStep_b28 {σ' : Mem} (hC : CallFix p m c cX0_priceLastStep 2 s args WALL RX0) (hG : GS D cy A s) (hR : 0 ≤ R.frames ∧ 0 ≤ R.locals) (Kr : KrV p l e R s m args below meth c cX0_priceLastStep Q D cy ad A z () σ')    (σ : Mem) (H : Heap) (locs : List Loc) (ls : Array Slot) (h : fX0_priceLastStep_b28  σ = some σ') (hM : MS D cy ad A s.heap z σ H locs) (hl : lv_has ls 2 []) : W p l e R s m args below meth c H locs 0 0 Q (F0 m 28 ls []) := by
  have hx := hC.1
  have hb := hC.2.1
  unfold fX0_priceLastStep_b28 at h
  cases h
  exact Kr _ _ _ _ dX0_priceLastStep_28 hM
def fX0_priceLastStep (o0 : Nat) (x1 : Int32) (σ : Mem) : Option (Mem) :=
  (fI σ 0 3 (some o0)).bind fun t1 =>
    if t1 < 1 then fX0_priceLastStep_b28 σ
    else (fI σ 0 3 (some o0)).bind fun t3 =>
      if 3 < t3 then fX0_priceLastStep_b28 σ
      else (fR σ 0 1 (some o0)).bind fun t5 =>
        (fI σ 0 3 (some o0)).bind fun t6 =>
        (wI σ 11 t5 (t6 - 1) x1).bind fun m7 =>
        fX0_priceLastStep_b28 m7
set_option maxRecDepth 20000 in
theorem wX0_priceLastStep {σ' : Mem} (hC : CallFix p m c cX0_priceLastStep 2 s args WALL RX0) (hG : GS D cy A s) (hR : 0 ≤ R.frames ∧ 0 ≤ R.locals) (Kr : KrV p l e R s m args below meth c cX0_priceLastStep Q D cy ad A z () σ') (o0 : Nat) (x1 : Int32) (σ : Mem) (H : Heap) (locs : List Loc) (ls : Array Slot) (h : fX0_priceLastStep o0 x1 σ = some σ') (hM : MS D cy ad A s.heap z σ H locs) (hl : lv_has ls 2 [(0, va_rf (Option.map ad (some o0))), (1, .int x1)]) : W p l e R s m args below meth c H locs 0 0 Q (F0 m 0 ls []) := by
  have hx := hC.1
  have hb := hC.2.1
  unfold fX0_priceLastStep at h
  refine lr_aload_n hx hb dX0_priceLastStep_0 rfl (lv_at hl 0 rfl) ?_
  obtain ⟨t1, e_t1, h⟩ := bn h
  refine gf_X0_22 hC hG hM e_t1 dX0_priceLastStep_1 ?_
  refine lv_iconst (v := 1) hx hb dX0_priceLastStep_4 (by decide) ?_
  refine lv_icmp_lt (tgt := 28) hx hb dX0_priceLastStep_5 (by decide) (fun c2 => ?_) (fun c2 => ?_)
  · rw [if_pos c2] at h
    exact wX0_priceLastStep_b28 hC hG hR Kr _ _ _ _ h hM (lv_sub hl [] rfl)
  · rw [if_neg c2] at h
    refine lr_aload_n hx hb dX0_priceLastStep_8 rfl (lv_at hl 0 rfl) ?_
    obtain ⟨t3, e_t3, h⟩ := bn h
    refine gf_X0_22 hC hG hM e_t3 dX0_priceLastStep_9 ?_
    refine lv_iconst (v := 3) hx hb dX0_priceLastStep_12 (by decide) ?_
    refine lv_icmp_gt (tgt := 28) hx hb dX0_priceLastStep_13 (by decide) (fun c4 => ?_) (fun c4 => ?_)
    · rw [if_pos c4] at h
      exact wX0_priceLastStep_b28 hC hG hR Kr _ _ _ _ h hM (lv_sub hl [] rfl)
    · rw [if_neg c4] at h
      refine lr_aload_n hx hb dX0_priceLastStep_16 rfl (lv_at hl 0 rfl) ?_
      obtain ⟨t5, e_t5, h⟩ := bn h
      refine gf_X0_15 hC hG hM e_t5 dX0_priceLastStep_17 ?_
      refine lr_aload_n hx hb dX0_priceLastStep_20 rfl (lv_at hl 0 rfl) ?_
      obtain ⟨t6, e_t6, h⟩ := bn h
      refine gf_X0_22 hC hG hM e_t6 dX0_priceLastStep_21 ?_
      refine lv_iconst (v := 1) hx hb dX0_priceLastStep_24 (by decide) ?_
      refine lv_isub hx hb dX0_priceLastStep_25 ?_
      refine lv_iload_n hx hb dX0_priceLastStep_26 rfl (lv_at hl 1 rfl) ?_
      obtain ⟨m7, e_m7, h⟩ := bn h
      refine g_iast hx hb hG hM e_m7 dX0_priceLastStep_27 (fun H locs hM => ?_)
      exact wX0_priceLastStep_b28 hC hG hR Kr _ _ _ _ h hM (lv_sub hl [] rfl)
theorem cX0_priceLastStep_ok {l : Launch} {D : va_G} {cy : Nat → ClassId} {ad : Nat → Nat} {A : Nat → Prop} {z : Nat} {σ' : Mem} {o0 : Nat} {x1 : Int32} {σ : Mem} (h : fX0_priceLastStep o0 x1 σ = some σ') : CtV l yX0_priceLastStep cX0_priceLastStep 2 none 0 [.ref (ad o0), .int x1] D cy ad A z σ () σ' :=
  enterV (own := RX0) (by decide) rfl (Nat.le_of_ble_eq_true rfl) rfl (fun p e s m below meth c Q ls hC hG hM Kr hl => wX0_priceLastStep hC hG ⟨Nat.le_refl _, Nat.le_refl _⟩ Kr _ _ _ _ _ _ h hM hl)
/-! X1_forget ()V -/
def fX1_forget_b20    (σ : Mem) : Option (Mem) :=
  some σ
set_option maxRecDepth 20000 in
theorem wX1_forget_b20 {σ' : Mem} (hC : CallFix p m c cX1_forget 2 s args WALL RX1) (hG : GS D cy A s) (hR : 0 ≤ R.frames ∧ 0 ≤ R.locals) (Kr : KrV p l e R s m args below meth c cX1_forget Q D cy ad A z () σ')    (σ : Mem) (H : Heap) (locs : List Loc) (ls : Array Slot) (h : fX1_forget_b20  σ = some σ') (hM : MS D cy ad A s.heap z σ H locs) (hl : lv_has ls 2 []) : W p l e R s m args below meth c H locs 0 0 Q (F0 m 20 ls []) := by
  have hx := hC.1
  have hb := hC.2.1
  unfold fX1_forget_b20 at h
  cases h
  exact Kr _ _ _ _ dX1_forget_20 hM
def fX1_forget_b2  : Nat → Nat → Int32 → Mem → Option (Mem)
  | 0, _, _, _ => none
  | n + 1, o0, x1, σ =>
    if 4 ≤ x1 then fX1_forget_b20 σ
      else (fR σ 1 3 (some o0)).bind fun t2 =>
        (wI σ 11 t2 x1 (-1)).bind fun m3 =>
        bd (x1 + 1) fun t4 =>
        (fX1_forget_b2 n) o0 t4 m3
set_option maxRecDepth 20000 in
theorem wX1_forget_b2 {σ' : Mem} (hC : CallFix p m c cX1_forget 2 s args WALL RX1) (hG : GS D cy A s) (hR : 0 ≤ R.frames ∧ 0 ≤ R.locals) (Kr : KrV p l e R s m args below meth c cX1_forget Q D cy ad A z () σ')  : ∀ (n : Nat) (o0 : Nat) (x1 : Int32)  (σ : Mem) (H : Heap) (locs : List Loc) (ls : Array Slot), fX1_forget_b2 n o0 x1 σ = some σ' → MS D cy ad A s.heap z σ H locs → lv_has ls 2 [(0, va_rf (Option.map ad (some o0))), (1, .int x1)] → W p l e R s m args below meth c H locs 0 0 Q (F0 m 2 ls []) := by
  have hx := hC.1
  have hb := hC.2.1
  intro n
  induction n with
  | zero =>
    intro o0 x1 σ H locs ls h
    cases h
  | succ n ih =>
    intro o0 x1 σ H locs ls h hM hl
    rw [fX1_forget_b2] at h
    refine lv_iload_n hx hb dX1_forget_2 rfl (lv_at hl 1 rfl) ?_
    refine lv_iconst (v := 4) hx hb dX1_forget_3 (by decide) ?_
    refine lv_icmp_ge (tgt := 20) hx hb dX1_forget_4 (by decide) (fun c1 => ?_) (fun c1 => ?_)
    · rw [if_pos c1] at h
      exact wX1_forget_b20 hC hG hR Kr _ _ _ _ h hM (lv_sub hl [] rfl)
    · rw [if_neg c1] at h
      refine lr_aload_n hx hb dX1_forget_7 rfl (lv_at hl 0 rfl) ?_
      obtain ⟨t2, e_t2, h⟩ := bn h
      refine gf_X1_22 hC hG hM e_t2 dX1_forget_8 ?_
      refine lv_iload_n hx hb dX1_forget_11 rfl (lv_at hl 1 rfl) ?_
      refine lv_iconst (v := (-1)) hx hb dX1_forget_12 (by decide) ?_
      obtain ⟨m3, e_m3, h⟩ := bn h
      refine g_iast hx hb hG hM e_m3 dX1_forget_13 (fun H locs hM => ?_)
      obtain ⟨t4, e_t4, h⟩ := bd_elim h
      refine lv_iinc (v := t4) (lv' := [(1, .int t4), (0, va_rf (Option.map ad (some o0)))]) hx hb dX1_forget_14 hl (k := 1) rfl (by rw [e_t4]; rfl) (by decide) (by first | rfl | simp [va_cat]) (fun ls hl => ?_)
      refine lv_goto (tgt := 2) hx hb dX1_forget_17 (by decide) ?_
      exact ih _ _ _ _ _ _ h hM (lv_sub hl [1, 0] rfl)
def fX1_forget (o0 : Nat) (σ : Mem) : Option (Mem) :=
  fX1_forget_b2 FU o0 0 σ
set_option maxRecDepth 20000 in
theorem wX1_forget {σ' : Mem} (hC : CallFix p m c cX1_forget 2 s args WALL RX1) (hG : GS D cy A s) (hR : 0 ≤ R.frames ∧ 0 ≤ R.locals) (Kr : KrV p l e R s m args below meth c cX1_forget Q D cy ad A z () σ') (o0 : Nat) (σ : Mem) (H : Heap) (locs : List Loc) (ls : Array Slot) (h : fX1_forget o0 σ = some σ') (hM : MS D cy ad A s.heap z σ H locs) (hl : lv_has ls 2 [(0, va_rf (Option.map ad (some o0)))]) : W p l e R s m args below meth c H locs 0 0 Q (F0 m 0 ls []) := by
  have hx := hC.1
  have hb := hC.2.1
  unfold fX1_forget at h
  refine lv_iconst (v := 0) hx hb dX1_forget_0 (by decide) ?_
  refine lv_istore_n (lv' := [(1, .int 0), (0, va_rf (Option.map ad (some o0)))]) hx hb dX1_forget_1 rfl hl (by decide) (by first | rfl | simp [va_cat]) (fun ls hl => ?_)
  exact wX1_forget_b2 hC hG hR Kr FU _ _ _ _ _ _ h hM (lv_sub hl [1, 0] rfl)
theorem cX1_forget_ok {l : Launch} {D : va_G} {cy : Nat → ClassId} {ad : Nat → Nat} {A : Nat → Prop} {z : Nat} {σ' : Mem} {o0 : Nat} {σ : Mem} (h : fX1_forget o0 σ = some σ') : CtV l yX1_forget cX1_forget 2 none 0 [.ref (ad o0)] D cy ad A z σ () σ' :=
  enterV (own := RX1) (by decide) rfl (Nat.le_of_ble_eq_true rfl) rfl (fun p e s m below meth c Q ls hC hG hM Kr hl => wX1_forget hC hG ⟨Nat.le_refl _, Nat.le_refl _⟩ Kr _ _ _ _ _ h hM hl)
/-! X1_writeGroups ()V -/
def fX1_writeGroups_b71    (σ : Mem) : Option (Mem) :=
  some σ
set_option maxRecDepth 20000 in
theorem wX1_writeGroups_b71 {σ' : Mem} (hC : CallFix p m c cX1_writeGroups 5 s args WALL RX1) (hG : GS D cy A s) (hR : 0 ≤ R.frames ∧ 0 ≤ R.locals) (Kr : KrV p l e R s m args below meth c cX1_writeGroups Q D cy ad A z () σ')    (σ : Mem) (H : Heap) (locs : List Loc) (ls : Array Slot) (h : fX1_writeGroups_b71  σ = some σ') (hM : MS D cy ad A s.heap z σ H locs) (hl : lv_has ls 5 []) : W p l e R s m args below meth c H locs 0 0 Q (F0 m 71 ls []) := by
  have hx := hC.1
  have hb := hC.2.1
  unfold fX1_writeGroups_b71 at h
  cases h
  exact Kr _ _ _ _ dX1_writeGroups_71 hM
def fX1_writeGroups_b59 (rc5 : Nat → Int32 → Int32 → Mem → Option (Mem)) (o0 : Nat) (x1 : Int32) (x2 : Int32) (x3 : Int32)  (σ : Mem) : Option (Mem) :=
  bd (x1 &&& (x3 ^^^ (-1))) fun t1 =>
    bd (x2 + 1) fun t2 =>
    rc5 o0 t1 t2 σ
set_option maxRecDepth 20000 in
theorem wX1_writeGroups_b59 {σ' : Mem} (hC : CallFix p m c cX1_writeGroups 5 s args WALL RX1) (hG : GS D cy A s) (hR : 0 ≤ R.frames ∧ 0 ≤ R.locals) (Kr : KrV p l e R s m args below meth c cX1_writeGroups Q D cy ad A z () σ') {rc5 : Nat → Int32 → Int32 → Mem → Option (Mem)} (Kc5 : ∀ (o0 : Nat) (x1 : Int32) (x2 : Int32) (τ : Mem) (H : Heap) (locs : List Loc) (ls : Array Slot), rc5 o0 x1 x2 τ = some σ' → MS D cy ad A s.heap z τ H locs → lv_has ls 5 [(0, va_rf (Option.map ad (some o0))), (1, .int x1), (2, .int x2)] → W p l e R s m args below meth c H locs 0 0 Q (F0 m 5 ls [])) (o0 : Nat) (x1 : Int32) (x2 : Int32) (x3 : Int32)  (σ : Mem) (H : Heap) (locs : List Loc) (ls : Array Slot) (h : fX1_writeGroups_b59 rc5 o0 x1 x2 x3 σ = some σ') (hM : MS D cy ad A s.heap z σ H locs) (hl : lv_has ls 5 [(0, va_rf (Option.map ad (some o0))), (1, .int x1), (2, .int x2), (3, .int x3)]) : W p l e R s m args below meth c H locs 0 0 Q (F0 m 59 ls []) := by
  have hx := hC.1
  have hb := hC.2.1
  unfold fX1_writeGroups_b59 at h
  refine lv_iload_n hx hb dX1_writeGroups_59 rfl (lv_at hl 1 rfl) ?_
  refine lv_iload_n hx hb dX1_writeGroups_60 rfl (lv_at hl 3 rfl) ?_
  refine lv_iconst (v := (-1)) hx hb dX1_writeGroups_61 (by decide) ?_
  refine lv_ixor hx hb dX1_writeGroups_62 ?_
  refine lv_iand hx hb dX1_writeGroups_63 ?_
  obtain ⟨t1, e_t1, h⟩ := bd_elim h
  refine lr_nmi e_t1 ?_
  refine lv_istore_n (lv' := [(1, .int t1), (0, va_rf (Option.map ad (some o0))), (2, .int x2), (3, .int x3)]) hx hb dX1_writeGroups_64 rfl hl (by decide) (by first | rfl | simp [va_cat]) (fun ls hl => ?_)
  obtain ⟨t2, e_t2, h⟩ := bd_elim h
  refine lv_iinc (v := t2) (lv' := [(2, .int t2), (1, .int t1), (0, va_rf (Option.map ad (some o0))), (3, .int x3)]) hx hb dX1_writeGroups_65 hl (k := 2) rfl (by rw [e_t2]; rfl) (by decide) (by first | rfl | simp [va_cat]) (fun ls hl => ?_)
  refine lv_goto (tgt := 5) hx hb dX1_writeGroups_68 (by decide) ?_
  exact Kc5 _ _ _ _ _ _ _ h hM (lv_sub hl [2, 1, 0] rfl)
def fX1_writeGroups_b53 (rc5 : Nat → Int32 → Int32 → Mem → Option (Mem)) (rc30 : Nat → Int32 → Int32 → Int32 → Int32 → Mem → Option (Mem)) (o0 : Nat) (x1 : Int32) (x2 : Int32) (x3 : Int32) (x4 : Int32)  (σ : Mem) : Option (Mem) :=
  bd (x4 + 1) fun t1 =>
    rc30 o0 x1 x2 x3 t1 σ
set_option maxRecDepth 20000 in
theorem wX1_writeGroups_b53 {σ' : Mem} (hC : CallFix p m c cX1_writeGroups 5 s args WALL RX1) (hG : GS D cy A s) (hR : 0 ≤ R.frames ∧ 0 ≤ R.locals) (Kr : KrV p l e R s m args below meth c cX1_writeGroups Q D cy ad A z () σ') {rc5 : Nat → Int32 → Int32 → Mem → Option (Mem)} (Kc5 : ∀ (o0 : Nat) (x1 : Int32) (x2 : Int32) (τ : Mem) (H : Heap) (locs : List Loc) (ls : Array Slot), rc5 o0 x1 x2 τ = some σ' → MS D cy ad A s.heap z τ H locs → lv_has ls 5 [(0, va_rf (Option.map ad (some o0))), (1, .int x1), (2, .int x2)] → W p l e R s m args below meth c H locs 0 0 Q (F0 m 5 ls [])) {rc30 : Nat → Int32 → Int32 → Int32 → Int32 → Mem → Option (Mem)} (Kc30 : ∀ (o0 : Nat) (x1 : Int32) (x2 : Int32) (x3 : Int32) (x4 : Int32) (τ : Mem) (H : Heap) (locs : List Loc) (ls : Array Slot), rc30 o0 x1 x2 x3 x4 τ = some σ' → MS D cy ad A s.heap z τ H locs → lv_has ls 5 [(0, va_rf (Option.map ad (some o0))), (1, .int x1), (2, .int x2), (3, .int x3), (4, .int x4)] → W p l e R s m args below meth c H locs 0 0 Q (F0 m 30 ls [])) (o0 : Nat) (x1 : Int32) (x2 : Int32) (x3 : Int32) (x4 : Int32)  (σ : Mem) (H : Heap) (locs : List Loc) (ls : Array Slot) (h : fX1_writeGroups_b53 rc5 rc30 o0 x1 x2 x3 x4 σ = some σ') (hM : MS D cy ad A s.heap z σ H locs) (hl : lv_has ls 5 [(0, va_rf (Option.map ad (some o0))), (1, .int x1), (2, .int x2), (3, .int x3), (4, .int x4)]) : W p l e R s m args below meth c H locs 0 0 Q (F0 m 53 ls []) := by
  have hx := hC.1
  have hb := hC.2.1
  unfold fX1_writeGroups_b53 at h
  obtain ⟨t1, e_t1, h⟩ := bd_elim h
  refine lv_iinc (v := t1) (lv' := [(4, .int t1), (0, va_rf (Option.map ad (some o0))), (1, .int x1), (2, .int x2), (3, .int x3)]) hx hb dX1_writeGroups_53 hl (k := 4) rfl (by rw [e_t1]; rfl) (by decide) (by first | rfl | simp [va_cat]) (fun ls hl => ?_)
  refine lv_goto (tgt := 30) hx hb dX1_writeGroups_56 (by decide) ?_
  exact Kc30 _ _ _ _ _ _ _ _ _ h hM (lv_sub hl [1, 2, 3, 4, 0] rfl)
def fX1_writeGroups_b30 (rc5 : Nat → Int32 → Int32 → Mem → Option (Mem)) : Nat → Nat → Int32 → Int32 → Int32 → Int32 → Mem → Option (Mem)
  | 0, _, _, _, _, _, _ => none
  | n + 1, o0, x1, x2, x3, x4, σ =>
    if 4 ≤ x4 then fX1_writeGroups_b59 rc5 o0 x1 x2 x3 σ
      else if ((x3 >>> (x4 &&& 31)) &&& 1) = 0 then fX1_writeGroups_b53 rc5 (fX1_writeGroups_b30 rc5 n) o0 x1 x2 x3 x4 σ
        else (fR σ 1 3 (some o0)).bind fun t3 =>
          (wI σ 11 t3 x4 x3).bind fun m4 =>
          fX1_writeGroups_b53 rc5 (fX1_writeGroups_b30 rc5 n) o0 x1 x2 x3 x4 m4
set_option maxRecDepth 20000 in
theorem wX1_writeGroups_b30 {σ' : Mem} (hC : CallFix p m c cX1_writeGroups 5 s args WALL RX1) (hG : GS D cy A s) (hR : 0 ≤ R.frames ∧ 0 ≤ R.locals) (Kr : KrV p l e R s m args below meth c cX1_writeGroups Q D cy ad A z () σ') {rc5 : Nat → Int32 → Int32 → Mem → Option (Mem)} (Kc5 : ∀ (o0 : Nat) (x1 : Int32) (x2 : Int32) (τ : Mem) (H : Heap) (locs : List Loc) (ls : Array Slot), rc5 o0 x1 x2 τ = some σ' → MS D cy ad A s.heap z τ H locs → lv_has ls 5 [(0, va_rf (Option.map ad (some o0))), (1, .int x1), (2, .int x2)] → W p l e R s m args below meth c H locs 0 0 Q (F0 m 5 ls [])) : ∀ (n : Nat) (o0 : Nat) (x1 : Int32) (x2 : Int32) (x3 : Int32) (x4 : Int32)  (σ : Mem) (H : Heap) (locs : List Loc) (ls : Array Slot), fX1_writeGroups_b30 rc5 n o0 x1 x2 x3 x4 σ = some σ' → MS D cy ad A s.heap z σ H locs → lv_has ls 5 [(0, va_rf (Option.map ad (some o0))), (1, .int x1), (2, .int x2), (3, .int x3), (4, .int x4)] → W p l e R s m args below meth c H locs 0 0 Q (F0 m 30 ls []) := by
  have hx := hC.1
  have hb := hC.2.1
  intro n
  induction n with
  | zero =>
    intro o0 x1 x2 x3 x4 σ H locs ls h
    cases h
  | succ n ih =>
    intro o0 x1 x2 x3 x4 σ H locs ls h hM hl
    rw [fX1_writeGroups_b30] at h
    refine lv_iload hx hb dX1_writeGroups_30 (lv_at hl 4 rfl) ?_
    refine lv_iconst (v := 4) hx hb dX1_writeGroups_32 (by decide) ?_
    refine lv_icmp_ge (tgt := 59) hx hb dX1_writeGroups_33 (by decide) (fun c1 => ?_) (fun c1 => ?_)
    · rw [if_pos c1] at h
      exact wX1_writeGroups_b59 hC hG hR Kr Kc5 _ _ _ _ _ _ _ _ h hM (lv_sub hl [0, 1, 2, 3] rfl)
    · rw [if_neg c1] at h
      refine lv_iload_n hx hb dX1_writeGroups_36 rfl (lv_at hl 3 rfl) ?_
      refine lv_iload hx hb dX1_writeGroups_37 (lv_at hl 4 rfl) ?_
      refine lv_ishr hx hb dX1_writeGroups_39 ?_
      refine lv_iconst (v := 1) hx hb dX1_writeGroups_40 (by decide) ?_
      refine lv_iand hx hb dX1_writeGroups_41 ?_
      refine lv_if_eq (tgt := 53) hx hb dX1_writeGroups_42 (by decide) (fun c2 => ?_) (fun c2 => ?_)
      · rw [if_pos c2] at h
        exact wX1_writeGroups_b53 hC hG hR Kr Kc5 ih _ _ _ _ _ _ _ _ _ h hM (lv_sub hl [0, 1, 2, 3, 4] rfl)
      · rw [if_neg c2] at h
        refine lr_aload_n hx hb dX1_writeGroups_45 rfl (lv_at hl 0 rfl) ?_
        obtain ⟨t3, e_t3, h⟩ := bn h
        refine gf_X1_22 hC hG hM e_t3 dX1_writeGroups_46 ?_
        refine lv_iload hx hb dX1_writeGroups_49 (lv_at hl 4 rfl) ?_
        refine lv_iload_n hx hb dX1_writeGroups_51 rfl (lv_at hl 3 rfl) ?_
        obtain ⟨m4, e_m4, h⟩ := bn h
        refine g_iast hx hb hG hM e_m4 dX1_writeGroups_52 (fun H locs hM => ?_)
        exact wX1_writeGroups_b53 hC hG hR Kr Kc5 ih _ _ _ _ _ _ _ _ _ h hM (lv_sub hl [0, 1, 2, 3, 4] rfl)
def fX1_writeGroups_b5  : Nat → Nat → Int32 → Int32 → Mem → Option (Mem)
  | 0, _, _, _, _ => none
  | n + 1, o0, x1, x2, σ =>
    if 4 ≤ x2 then fX1_writeGroups_b71 σ
      else if x1 ≤ 0 then fX1_writeGroups_b71 σ
        else if 15 < x1 then fX1_writeGroups_b71 σ
          else (fR σ 1 2 (some o0)).bind fun t4 =>
            (aI σ 11 t4 x1).bind fun t5 =>
            fX1_writeGroups_b30 (fX1_writeGroups_b5 n) FU o0 x1 x2 t5 0 σ
set_option maxRecDepth 20000 in
theorem wX1_writeGroups_b5 {σ' : Mem} (hC : CallFix p m c cX1_writeGroups 5 s args WALL RX1) (hG : GS D cy A s) (hR : 0 ≤ R.frames ∧ 0 ≤ R.locals) (Kr : KrV p l e R s m args below meth c cX1_writeGroups Q D cy ad A z () σ')  : ∀ (n : Nat) (o0 : Nat) (x1 : Int32) (x2 : Int32)  (σ : Mem) (H : Heap) (locs : List Loc) (ls : Array Slot), fX1_writeGroups_b5 n o0 x1 x2 σ = some σ' → MS D cy ad A s.heap z σ H locs → lv_has ls 5 [(0, va_rf (Option.map ad (some o0))), (1, .int x1), (2, .int x2)] → W p l e R s m args below meth c H locs 0 0 Q (F0 m 5 ls []) := by
  have hx := hC.1
  have hb := hC.2.1
  intro n
  induction n with
  | zero =>
    intro o0 x1 x2 σ H locs ls h
    cases h
  | succ n ih =>
    intro o0 x1 x2 σ H locs ls h hM hl
    rw [fX1_writeGroups_b5] at h
    refine lv_iload_n hx hb dX1_writeGroups_5 rfl (lv_at hl 2 rfl) ?_
    refine lv_iconst (v := 4) hx hb dX1_writeGroups_6 (by decide) ?_
    refine lv_icmp_ge (tgt := 71) hx hb dX1_writeGroups_7 (by decide) (fun c1 => ?_) (fun c1 => ?_)
    · rw [if_pos c1] at h
      exact wX1_writeGroups_b71 hC hG hR Kr _ _ _ _ h hM (lv_sub hl [] rfl)
    · rw [if_neg c1] at h
      refine lv_iload_n hx hb dX1_writeGroups_10 rfl (lv_at hl 1 rfl) ?_
      refine lv_if_le (tgt := 71) hx hb dX1_writeGroups_11 (by decide) (fun c2 => ?_) (fun c2 => ?_)
      · rw [if_pos c2] at h
        exact wX1_writeGroups_b71 hC hG hR Kr _ _ _ _ h hM (lv_sub hl [] rfl)
      · rw [if_neg c2] at h
        refine lv_iload_n hx hb dX1_writeGroups_14 rfl (lv_at hl 1 rfl) ?_
        refine lv_bipush (v := 15) hx hb dX1_writeGroups_15 (by decide) ?_
        refine lv_icmp_gt (tgt := 71) hx hb dX1_writeGroups_17 (by decide) (fun c3 => ?_) (fun c3 => ?_)
        · rw [if_pos c3] at h
          exact wX1_writeGroups_b71 hC hG hR Kr _ _ _ _ h hM (lv_sub hl [] rfl)
        · rw [if_neg c3] at h
          refine lr_aload_n hx hb dX1_writeGroups_20 rfl (lv_at hl 0 rfl) ?_
          obtain ⟨t4, e_t4, h⟩ := bn h
          refine gf_X1_18 hC hG hM e_t4 dX1_writeGroups_21 ?_
          refine lv_iload_n hx hb dX1_writeGroups_24 rfl (lv_at hl 1 rfl) ?_
          obtain ⟨t5, e_t5, h⟩ := bn h
          refine g_iald hx hb hG hM e_t5 dX1_writeGroups_25 ?_
          refine lv_istore_n (lv' := [(3, .int t5), (0, va_rf (Option.map ad (some o0))), (1, .int x1), (2, .int x2)]) hx hb dX1_writeGroups_26 rfl hl (by decide) (by first | rfl | simp [va_cat]) (fun ls hl => ?_)
          refine lv_iconst (v := 0) hx hb dX1_writeGroups_27 (by decide) ?_
          refine lv_istore (lv' := [(4, .int 0), (3, .int t5), (0, va_rf (Option.map ad (some o0))), (1, .int x1), (2, .int x2)]) hx hb dX1_writeGroups_28 hl (by decide) (by first | rfl | simp [va_cat]) (fun ls hl => ?_)
          exact wX1_writeGroups_b30 hC hG hR Kr ih FU _ _ _ _ _ _ _ _ _ h hM (lv_sub hl [2, 3, 4, 1, 0] rfl)
def fX1_writeGroups (o0 : Nat) (σ : Mem) : Option (Mem) :=
  fX1_writeGroups_b5 FU o0 15 0 σ
set_option maxRecDepth 20000 in
theorem wX1_writeGroups {σ' : Mem} (hC : CallFix p m c cX1_writeGroups 5 s args WALL RX1) (hG : GS D cy A s) (hR : 0 ≤ R.frames ∧ 0 ≤ R.locals) (Kr : KrV p l e R s m args below meth c cX1_writeGroups Q D cy ad A z () σ') (o0 : Nat) (σ : Mem) (H : Heap) (locs : List Loc) (ls : Array Slot) (h : fX1_writeGroups o0 σ = some σ') (hM : MS D cy ad A s.heap z σ H locs) (hl : lv_has ls 5 [(0, va_rf (Option.map ad (some o0)))]) : W p l e R s m args below meth c H locs 0 0 Q (F0 m 0 ls []) := by
  have hx := hC.1
  have hb := hC.2.1
  unfold fX1_writeGroups at h
  refine lv_bipush (v := 15) hx hb dX1_writeGroups_0 (by decide) ?_
  refine lv_istore_n (lv' := [(1, .int 15), (0, va_rf (Option.map ad (some o0)))]) hx hb dX1_writeGroups_2 rfl hl (by decide) (by first | rfl | simp [va_cat]) (fun ls hl => ?_)
  refine lv_iconst (v := 0) hx hb dX1_writeGroups_3 (by decide) ?_
  refine lv_istore_n (lv' := [(2, .int 0), (1, .int 15), (0, va_rf (Option.map ad (some o0)))]) hx hb dX1_writeGroups_4 rfl hl (by decide) (by first | rfl | simp [va_cat]) (fun ls hl => ?_)
  exact wX1_writeGroups_b5 hC hG hR Kr FU _ _ _ _ _ _ _ h hM (lv_sub hl [2, 1, 0] rfl)
theorem cX1_writeGroups_ok {l : Launch} {D : va_G} {cy : Nat → ClassId} {ad : Nat → Nat} {A : Nat → Prop} {z : Nat} {σ' : Mem} {o0 : Nat} {σ : Mem} (h : fX1_writeGroups o0 σ = some σ') : CtV l yX1_writeGroups cX1_writeGroups 5 none 0 [.ref (ad o0)] D cy ad A z σ () σ' :=
  enterV (own := RX1) (by decide) rfl (Nat.le_of_ble_eq_true rfl) rfl (fun p e s m below meth c Q ls hC hG hM Kr hl => wX1_writeGroups hC hG ⟨Nat.le_refl _, Nat.le_refl _⟩ Kr _ _ _ _ _ h hM hl)
/-! X2_clear ()V -/
def fX2_clear (o0 : Nat) (σ : Mem) : Option (Mem) :=
  (pJ σ 2 1 (some o0) 0).bind fun m1 =>
    (pI m1 2 2 (some o0) 0).bind fun m2 =>
    (pI m2 2 3 (some o0) 0).bind fun m3 =>
    (pI m3 2 4 (some o0) 1).bind fun m4 =>
    (pI m4 2 5 (some o0) 0).bind fun m5 =>
    (pI m5 2 6 (some o0) 23).bind fun m6 =>
    (pI m6 2 7 (some o0) 0).bind fun m7 =>
    some m7
set_option maxRecDepth 20000 in
theorem wX2_clear {σ' : Mem} (hC : CallFix p m c cX2_clear 1 s args WALL RX2) (hG : GS D cy A s) (hR : 0 ≤ R.frames ∧ 0 ≤ R.locals) (Kr : KrV p l e R s m args below meth c cX2_clear Q D cy ad A z () σ') (o0 : Nat) (σ : Mem) (H : Heap) (locs : List Loc) (ls : Array Slot) (h : fX2_clear o0 σ = some σ') (hM : MS D cy ad A s.heap z σ H locs) (hl : lv_has ls 1 [(0, va_rf (Option.map ad (some o0)))]) : W p l e R s m args below meth c H locs 0 0 Q (F0 m 0 ls []) := by
  have hx := hC.1
  have hb := hC.2.1
  unfold fX2_clear at h
  refine lr_aload_n hx hb dX2_clear_0 rfl (lv_at hl 0 rfl) ?_
  refine lv_lconst (v := 0) hx hb dX2_clear_1 (by decide) ?_
  obtain ⟨m1, e_m1, h⟩ := bn h
  refine pf_X2_21 hC hG hM e_m1 dX2_clear_2 (fun H locs hM => ?_)
  refine lr_aload_n hx hb dX2_clear_5 rfl (lv_at hl 0 rfl) ?_
  refine lv_iconst (v := 0) hx hb dX2_clear_6 (by decide) ?_
  obtain ⟨m2, e_m2, h⟩ := bn h
  refine pf_X2_25 hC hG hM e_m2 dX2_clear_7 (fun H locs hM => ?_)
  refine lr_aload_n hx hb dX2_clear_10 rfl (lv_at hl 0 rfl) ?_
  refine lv_iconst (v := 0) hx hb dX2_clear_11 (by decide) ?_
  obtain ⟨m3, e_m3, h⟩ := bn h
  refine pf_X2_29 hC hG hM e_m3 dX2_clear_12 (fun H locs hM => ?_)
  refine lr_aload_n hx hb dX2_clear_15 rfl (lv_at hl 0 rfl) ?_
  refine lv_iconst (v := 1) hx hb dX2_clear_16 (by decide) ?_
  obtain ⟨m4, e_m4, h⟩ := bn h
  refine pf_X2_32 hC hG hM e_m4 dX2_clear_17 (fun H locs hM => ?_)
  refine lr_aload_n hx hb dX2_clear_20 rfl (lv_at hl 0 rfl) ?_
  refine lv_iconst (v := 0) hx hb dX2_clear_21 (by decide) ?_
  obtain ⟨m5, e_m5, h⟩ := bn h
  refine pf_X2_35 hC hG hM e_m5 dX2_clear_22 (fun H locs hM => ?_)
  refine lr_aload_n hx hb dX2_clear_25 rfl (lv_at hl 0 rfl) ?_
  refine lv_bipush (v := 23) hx hb dX2_clear_26 (by decide) ?_
  obtain ⟨m6, e_m6, h⟩ := bn h
  refine pf_X2_38 hC hG hM e_m6 dX2_clear_28 (fun H locs hM => ?_)
  refine lr_aload_n hx hb dX2_clear_31 rfl (lv_at hl 0 rfl) ?_
  refine lv_iconst (v := 0) hx hb dX2_clear_32 (by decide) ?_
  obtain ⟨m7, e_m7, h⟩ := bn h
  refine pf_X2_41 hC hG hM e_m7 dX2_clear_33 (fun H locs hM => ?_)
  cases h
  exact Kr _ _ _ _ dX2_clear_36 hM
theorem cX2_clear_ok {l : Launch} {D : va_G} {cy : Nat → ClassId} {ad : Nat → Nat} {A : Nat → Prop} {z : Nat} {σ' : Mem} {o0 : Nat} {σ : Mem} (h : fX2_clear o0 σ = some σ') : CtV l yX2_clear cX2_clear 1 none 0 [.ref (ad o0)] D cy ad A z σ () σ' :=
  enterV (own := RX2) (by decide) rfl (Nat.le_of_ble_eq_true rfl) rfl (fun p e s m below meth c Q ls hC hG hM Kr hl => wX2_clear hC hG ⟨Nat.le_refl _, Nat.le_refl _⟩ Kr _ _ _ _ _ h hM hl)
/-! X3_at (I)LTariffDesk$Plan; -/
def fX3_at_b28   (y0 : Option Nat) (σ : Mem) : Option (Option Nat × Mem) :=
  some (y0, σ)
set_option maxRecDepth 20000 in
theorem wX3_at_b28 {r : Option Nat} {σ' : Mem} (hC : CallFix p m c cX3_at 2 s args WALL RX3) (hG : GS D cy A s) (hR : 0 ≤ R.frames ∧ 0 ≤ R.locals) (Kr : KrR p l e R s m args below meth c cX3_at Q D cy ad A z r σ')   (y0 : Option Nat) (σ : Mem) (H : Heap) (locs : List Loc) (ls : Array Slot) (h : fX3_at_b28 y0 σ = some (r, σ')) (hM : MS D cy ad A s.heap z σ H locs) (hl : lv_has ls 2 []) : W p l e R s m args below meth c H locs 0 0 Q (F0 m 28 ls [va_rf (Option.map ad y0)]) := by
  have hx := hC.1
  have hb := hC.2.1
  unfold fX3_at_b28 at h
  obtain ⟨rfl, rfl⟩ := Prod.mk.inj (Option.some.inj h)
  exact Kr _ _ _ _ dX3_at_28 hM
def fX3_at_b18    (σ : Mem) : Option (Option Nat × Mem) :=
  fX3_at_b28 none σ
set_option maxRecDepth 20000 in
theorem wX3_at_b18 {r : Option Nat} {σ' : Mem} (hC : CallFix p m c cX3_at 2 s args WALL RX3) (hG : GS D cy A s) (hR : 0 ≤ R.frames ∧ 0 ≤ R.locals) (Kr : KrR p l e R s m args below meth c cX3_at Q D cy ad A z r σ')    (σ : Mem) (H : Heap) (locs : List Loc) (ls : Array Slot) (h : fX3_at_b18  σ = some (r, σ')) (hM : MS D cy ad A s.heap z σ H locs) (hl : lv_has ls 2 []) : W p l e R s m args below meth c H locs 0 0 Q (F0 m 18 ls []) := by
  have hx := hC.1
  have hb := hC.2.1
  unfold fX3_at_b18 at h
  refine lr_null (ad := ad) hx hb dX3_at_18 ?_
  refine lv_goto (tgt := 28) hx hb dX3_at_19 (by decide) ?_
  exact wX3_at_b28 hC hG hR Kr _ _ _ _ _ h hM (lv_sub hl [] rfl)
def fX3_at (o0 : Nat) (x1 : Int32) (σ : Mem) : Option (Option Nat × Mem) :=
  if x1 < 0 then fX3_at_b18 σ
    else (fI σ 3 1 (some o0)).bind fun t2 =>
      if t2 ≤ x1 then fX3_at_b18 σ
      else if x1 < 10 then (fR σ 3 0 (some o0)).bind fun t5 =>
          (aR σ 15 t5 x1).bind fun t6 =>
          fX3_at_b28 t6 σ
        else fX3_at_b18 σ
set_option maxRecDepth 20000 in
theorem wX3_at {r : Option Nat} {σ' : Mem} (hC : CallFix p m c cX3_at 2 s args WALL RX3) (hG : GS D cy A s) (hR : 0 ≤ R.frames ∧ 0 ≤ R.locals) (Kr : KrR p l e R s m args below meth c cX3_at Q D cy ad A z r σ') (o0 : Nat) (x1 : Int32) (σ : Mem) (H : Heap) (locs : List Loc) (ls : Array Slot) (h : fX3_at o0 x1 σ = some (r, σ')) (hM : MS D cy ad A s.heap z σ H locs) (hl : lv_has ls 2 [(0, va_rf (Option.map ad (some o0))), (1, .int x1)]) : W p l e R s m args below meth c H locs 0 0 Q (F0 m 0 ls []) := by
  have hx := hC.1
  have hb := hC.2.1
  unfold fX3_at at h
  refine lv_iload_n hx hb dX3_at_0 rfl (lv_at hl 1 rfl) ?_
  refine lv_if_lt (tgt := 18) hx hb dX3_at_1 (by decide) (fun c1 => ?_) (fun c1 => ?_)
  · rw [if_pos c1] at h
    exact wX3_at_b18 hC hG hR Kr _ _ _ _ h hM (lv_sub hl [] rfl)
  · rw [if_neg c1] at h
    refine lv_iload_n hx hb dX3_at_4 rfl (lv_at hl 1 rfl) ?_
    refine lr_aload_n hx hb dX3_at_5 rfl (lv_at hl 0 rfl) ?_
    obtain ⟨t2, e_t2, h⟩ := bn h
    refine gf_X3_18 hC hG hM e_t2 dX3_at_6 ?_
    refine lv_icmp_ge (tgt := 18) hx hb dX3_at_9 (by decide) (fun c3 => ?_) (fun c3 => ?_)
    · rw [if_pos c3] at h
      exact wX3_at_b18 hC hG hR Kr _ _ _ _ h hM (lv_sub hl [] rfl)
    · rw [if_neg c3] at h
      refine lv_iload_n hx hb dX3_at_12 rfl (lv_at hl 1 rfl) ?_
      refine lv_bipush (v := 10) hx hb dX3_at_13 (by decide) ?_
      refine lv_icmp_lt (tgt := 22) hx hb dX3_at_15 (by decide) (fun c4 => ?_) (fun c4 => ?_)
      · rw [if_pos c4] at h
        refine lr_aload_n hx hb dX3_at_22 rfl (lv_at hl 0 rfl) ?_
        obtain ⟨t5, e_t5, h⟩ := bn h
        refine gf_X3_11 hC hG hM e_t5 dX3_at_23 ?_
        refine lv_iload_n hx hb dX3_at_26 rfl (lv_at hl 1 rfl) ?_
        obtain ⟨t6, e_t6, h⟩ := bn h
        refine g_aald15 hx hb hG hM e_t6 dX3_at_27 ?_
        exact wX3_at_b28 hC hG hR Kr _ _ _ _ _ h hM (lv_sub hl [] rfl)
      · rw [if_neg c4] at h
        exact wX3_at_b18 hC hG hR Kr _ _ _ _ h hM (lv_sub hl [] rfl)
theorem cX3_at_ok {l : Launch} {D : va_G} {cy : Nat → ClassId} {ad : Nat → Nat} {A : Nat → Prop} {z : Nat} {r : Option Nat} {σ' : Mem} {o0 : Nat} {x1 : Int32} {σ : Mem} (h : fX3_at o0 x1 σ = some (r, σ')) : CtR l yX3_at cX3_at 2 (some (.object "TariffDesk$Plan")) 0 [.ref (ad o0), .int x1] D cy ad A z σ r σ' :=
  enterR (own := RX3) (by decide) rfl (Nat.le_of_ble_eq_true rfl) (rtt := (.object "TariffDesk$Plan")) rfl (Or.inl ⟨_, rfl⟩) (fun p e s m below meth c Q ls hC hG hM Kr hl => wX3_at hC hG ⟨Nat.le_refl _, Nat.le_refl _⟩ Kr _ _ _ _ _ _ h hM hl)
/-! X4_exchange (LTariffDesk$PlanBook;)LTariffDesk$PlanBook; -/
def fX4_exchange (o0 : Nat) (x1 : Option Nat) (σ : Mem) : Option (Option Nat × Mem) :=
  (fR σ 4 1 (some o0)).bind fun t1 =>
    (pR σ 4 1 (some o0) x1).bind fun m2 =>
    some (t1, m2)
set_option maxRecDepth 20000 in
theorem wX4_exchange {r : Option Nat} {σ' : Mem} (hC : CallFix p m c cX4_exchange 3 s args WALL RX4) (hG : GS D cy A s) (hR : 0 ≤ R.frames ∧ 0 ≤ R.locals) (Kr : KrR p l e R s m args below meth c cX4_exchange Q D cy ad A z r σ') (o0 : Nat) (x1 : Option Nat) (σ : Mem) (H : Heap) (locs : List Loc) (ls : Array Slot) (h : fX4_exchange o0 x1 σ = some (r, σ')) (hM : MS D cy ad A s.heap z σ H locs) (hl : lv_has ls 3 [(0, va_rf (Option.map ad (some o0))), (1, va_rf (Option.map ad x1))]) : W p l e R s m args below meth c H locs 0 0 Q (F0 m 0 ls []) := by
  have hx := hC.1
  have hb := hC.2.1
  unfold fX4_exchange at h
  refine lr_aload_n hx hb dX4_exchange_0 rfl (lv_at hl 0 rfl) ?_
  obtain ⟨t1, e_t1, h⟩ := bn h
  refine gf_X4_18 hC hG hM e_t1 dX4_exchange_1 ?_
  refine lr_astore_n (lv' := [(2, va_rf (Option.map ad t1)), (0, va_rf (Option.map ad (some o0))), (1, va_rf (Option.map ad x1))]) hx hb dX4_exchange_4 rfl hl (by decide) (by first | rfl | simp [va_cat]) (fun ls hl => ?_)
  refine lr_aload_n hx hb dX4_exchange_5 rfl (lv_at hl 1 rfl) ?_
  refine lr_aload_n hx hb dX4_exchange_6 rfl (lv_at hl 2 rfl) ?_
  obtain ⟨m2, e_m2, h⟩ := bn h
  refine pf_X4_18 hC hG hM e_m2 dX4_exchange_7 (fun H locs hM => ?_)
  refine lr_aload_n hx hb dX4_exchange_10 rfl (lv_at hl 0 rfl) ?_
  obtain ⟨rfl, rfl⟩ := Prod.mk.inj (Option.some.inj h)
  exact Kr _ _ _ _ dX4_exchange_11 hM
theorem cX4_exchange_ok {l : Launch} {D : va_G} {cy : Nat → ClassId} {ad : Nat → Nat} {A : Nat → Prop} {z : Nat} {r : Option Nat} {σ' : Mem} {o0 : Nat} {x1 : Option Nat} {σ : Mem} (h : fX4_exchange o0 x1 σ = some (r, σ')) : CtR l yX4_exchange cX4_exchange 3 (some (.object "TariffDesk$PlanBook")) 0 [.ref (ad o0), va_rf (Option.map ad x1)] D cy ad A z σ r σ' :=
  enterR (own := RX4) (by decide) rfl (by simp [lg_sl, va_cat, vcI, vcL, vcR]) (rtt := (.object "TariffDesk$PlanBook")) rfl (Or.inl ⟨_, rfl⟩) (fun p e s m below meth c Q ls hC hG hM Kr hl => wX4_exchange hC hG ⟨Nat.le_refl _, Nat.le_refl _⟩ Kr _ _ _ _ _ _ h hM (by simp [lv_args, va_cat, vcI, vcL, vcR] at hl; exact hl))
/-! X4_greatestBehind (I)I -/
def fX4_greatestBehind (x0 : Int32) (σ : Mem) : Option (Int32 × Mem) :=
  (if x0 = 1 then some (999999, σ) else if x0 = 2 then some (24, σ) else if x0 = 3 then some (23, σ) else if x0 = 4 then some (23, σ) else if x0 = 5 then some (3, σ) else if x0 = 6 then some (20000, σ) else if x0 = 7 then some (20000, σ) else some (9999, σ))
set_option maxRecDepth 20000 in
theorem wX4_greatestBehind {r : Int32} {σ' : Mem} (hC : CallFix p m c cX4_greatestBehind 1 s args WALL RX4) (hG : GS D cy A s) (hR : 0 ≤ R.frames ∧ 0 ≤ R.locals) (Kr : KrI p l e R s m args below meth c cX4_greatestBehind Q D cy ad A z r σ') (x0 : Int32) (σ : Mem) (H : Heap) (locs : List Loc) (ls : Array Slot) (h : fX4_greatestBehind x0 σ = some (r, σ')) (hM : MS D cy ad A s.heap z σ H locs) (hl : lv_has ls 1 [(0, .int x0)]) : W p l e R s m args below meth c H locs 0 0 Q (F0 m 0 ls []) := by
  have hx := hC.1
  have hb := hC.2.1
  unfold fX4_greatestBehind at h
  refine lv_iload_n hx hb dX4_greatestBehind_0 rfl (lv_at hl 0 rfl) ?_
  by_cases c1 : x0 = 1
  · rw [if_pos c1] at h
    refine lv_tableIn (tgt := 44) hx hb dX4_greatestBehind_1 (by rw [c1]; decide) (by rw [c1]; decide) (by rw [c1]; rfl) (by decide) ?_
    refine lv_ldc (v := 999999) hx hb hC.2.2.2.1 (hC.2.2.2.2 _ wk_X4_126) dX4_greatestBehind_44 ?_
    obtain ⟨rfl, rfl⟩ := Prod.mk.inj (Option.some.inj h)
    exact Kr _ _ _ _ dX4_greatestBehind_46 hM
  · rw [if_neg c1] at h
    by_cases c2 : x0 = 2
    · rw [if_pos c2] at h
      refine lv_tableIn (tgt := 47) hx hb dX4_greatestBehind_1 (by rw [c2]; decide) (by rw [c2]; decide) (by rw [c2]; rfl) (by decide) ?_
      refine lv_bipush (v := 24) hx hb dX4_greatestBehind_47 (by decide) ?_
      obtain ⟨rfl, rfl⟩ := Prod.mk.inj (Option.some.inj h)
      exact Kr _ _ _ _ dX4_greatestBehind_49 hM
    · rw [if_neg c2] at h
      by_cases c3 : x0 = 3
      · rw [if_pos c3] at h
        refine lv_tableIn (tgt := 50) hx hb dX4_greatestBehind_1 (by rw [c3]; decide) (by rw [c3]; decide) (by rw [c3]; rfl) (by decide) ?_
        refine lv_bipush (v := 23) hx hb dX4_greatestBehind_50 (by decide) ?_
        obtain ⟨rfl, rfl⟩ := Prod.mk.inj (Option.some.inj h)
        exact Kr _ _ _ _ dX4_greatestBehind_52 hM
      · rw [if_neg c3] at h
        by_cases c4 : x0 = 4
        · rw [if_pos c4] at h
          refine lv_tableIn (tgt := 50) hx hb dX4_greatestBehind_1 (by rw [c4]; decide) (by rw [c4]; decide) (by rw [c4]; rfl) (by decide) ?_
          refine lv_bipush (v := 23) hx hb dX4_greatestBehind_50 (by decide) ?_
          obtain ⟨rfl, rfl⟩ := Prod.mk.inj (Option.some.inj h)
          exact Kr _ _ _ _ dX4_greatestBehind_52 hM
        · rw [if_neg c4] at h
          by_cases c5 : x0 = 5
          · rw [if_pos c5] at h
            refine lv_tableIn (tgt := 53) hx hb dX4_greatestBehind_1 (by rw [c5]; decide) (by rw [c5]; decide) (by rw [c5]; rfl) (by decide) ?_
            refine lv_iconst (v := 3) hx hb dX4_greatestBehind_53 (by decide) ?_
            obtain ⟨rfl, rfl⟩ := Prod.mk.inj (Option.some.inj h)
            exact Kr _ _ _ _ dX4_greatestBehind_54 hM
          · rw [if_neg c5] at h
            by_cases c6 : x0 = 6
            · rw [if_pos c6] at h
              refine lv_tableIn (tgt := 55) hx hb dX4_greatestBehind_1 (by rw [c6]; decide) (by rw [c6]; decide) (by rw [c6]; rfl) (by decide) ?_
              refine lv_sipush (v := 20000) hx hb dX4_greatestBehind_55 (by decide) ?_
              obtain ⟨rfl, rfl⟩ := Prod.mk.inj (Option.some.inj h)
              exact Kr _ _ _ _ dX4_greatestBehind_58 hM
            · rw [if_neg c6] at h
              by_cases c7 : x0 = 7
              · rw [if_pos c7] at h
                refine lv_tableIn (tgt := 55) hx hb dX4_greatestBehind_1 (by rw [c7]; decide) (by rw [c7]; decide) (by rw [c7]; rfl) (by decide) ?_
                refine lv_sipush (v := 20000) hx hb dX4_greatestBehind_55 (by decide) ?_
                obtain ⟨rfl, rfl⟩ := Prod.mk.inj (Option.some.inj h)
                exact Kr _ _ _ _ dX4_greatestBehind_58 hM
              · rw [if_neg c7] at h
                refine lv_tableOut (tgt := 59) hx hb dX4_greatestBehind_1 (by have n_c1 := lv_neT c1 (show (1 : Int32).toInt = 1 from rfl); have n_c2 := lv_neT c2 (show (2 : Int32).toInt = 2 from rfl); have n_c3 := lv_neT c3 (show (3 : Int32).toInt = 3 from rfl); have n_c4 := lv_neT c4 (show (4 : Int32).toInt = 4 from rfl); have n_c5 := lv_neT c5 (show (5 : Int32).toInt = 5 from rfl); have n_c6 := lv_neT c6 (show (6 : Int32).toInt = 6 from rfl); have n_c7 := lv_neT c7 (show (7 : Int32).toInt = 7 from rfl); omega) (by decide) ?_
                refine lv_sipush (v := 9999) hx hb dX4_greatestBehind_59 (by decide) ?_
                obtain ⟨rfl, rfl⟩ := Prod.mk.inj (Option.some.inj h)
                exact Kr _ _ _ _ dX4_greatestBehind_62 hM
theorem cX4_greatestBehind_ok {l : Launch} {D : va_G} {cy : Nat → ClassId} {ad : Nat → Nat} {A : Nat → Prop} {z : Nat} {r : Int32} {σ' : Mem} {x0 : Int32} {σ : Mem} (h : fX4_greatestBehind x0 σ = some (r, σ')) : CtI l yX4_greatestBehind cX4_greatestBehind 1 (some .int) 0 [.int x0] D cy ad A z σ r σ' :=
  enterI (own := RX4) (by decide) rfl (Nat.le_of_ble_eq_true rfl) rfl (fun p e s m below meth c Q ls hC hG hM Kr hl => wX4_greatestBehind hC hG ⟨Nat.le_refl _, Nat.le_refl _⟩ Kr _ _ _ _ _ h hM hl)
/-! X4_isBlank (I)Z -/
def fX4_isBlank_b17   (y0 : Int32) (σ : Mem) : Option (Int32 × Mem) :=
  if y0 = 0 ∨ y0 = 1 then some (y0, σ) else none
set_option maxRecDepth 20000 in
theorem wX4_isBlank_b17 {r : Int32} {σ' : Mem} (hC : CallFix p m c cX4_isBlank 1 s args WALL RX4) (hG : GS D cy A s) (hR : 0 ≤ R.frames ∧ 0 ≤ R.locals) (Kr : KrZ p l e R s m args below meth c cX4_isBlank Q D cy ad A z r σ')   (y0 : Int32) (σ : Mem) (H : Heap) (locs : List Loc) (ls : Array Slot) (h : fX4_isBlank_b17 y0 σ = some (r, σ')) (hM : MS D cy ad A s.heap z σ H locs) (hl : lv_has ls 1 []) : W p l e R s m args below meth c H locs 0 0 Q (F0 m 17 ls [.int y0]) := by
  have hx := hC.1
  have hb := hC.2.1
  unfold fX4_isBlank_b17 at h
  by_cases c1 : y0 = 0 ∨ y0 = 1
  · rw [if_pos c1] at h
    cases h
    exact Kr _ _ _ _ dX4_isBlank_17 (nar01 c1) hM
  · rw [if_neg c1] at h
    cases h
def fX4_isBlank_b12    (σ : Mem) : Option (Int32 × Mem) :=
  fX4_isBlank_b17 1 σ
set_option maxRecDepth 20000 in
theorem wX4_isBlank_b12 {r : Int32} {σ' : Mem} (hC : CallFix p m c cX4_isBlank 1 s args WALL RX4) (hG : GS D cy A s) (hR : 0 ≤ R.frames ∧ 0 ≤ R.locals) (Kr : KrZ p l e R s m args below meth c cX4_isBlank Q D cy ad A z r σ')    (σ : Mem) (H : Heap) (locs : List Loc) (ls : Array Slot) (h : fX4_isBlank_b12  σ = some (r, σ')) (hM : MS D cy ad A s.heap z σ H locs) (hl : lv_has ls 1 []) : W p l e R s m args below meth c H locs 0 0 Q (F0 m 12 ls []) := by
  have hx := hC.1
  have hb := hC.2.1
  unfold fX4_isBlank_b12 at h
  refine lv_iconst (v := 1) hx hb dX4_isBlank_12 (by decide) ?_
  refine lv_goto (tgt := 17) hx hb dX4_isBlank_13 (by decide) ?_
  exact wX4_isBlank_b17 hC hG hR Kr _ _ _ _ _ h hM (lv_sub hl [] rfl)
def fX4_isBlank (x0 : Int32) (σ : Mem) : Option (Int32 × Mem) :=
  if x0 = 32 then fX4_isBlank_b12 σ
    else if x0 = 10 then fX4_isBlank_b12 σ
      else fX4_isBlank_b17 0 σ
set_option maxRecDepth 20000 in
theorem wX4_isBlank {r : Int32} {σ' : Mem} (hC : CallFix p m c cX4_isBlank 1 s args WALL RX4) (hG : GS D cy A s) (hR : 0 ≤ R.frames ∧ 0 ≤ R.locals) (Kr : KrZ p l e R s m args below meth c cX4_isBlank Q D cy ad A z r σ') (x0 : Int32) (σ : Mem) (H : Heap) (locs : List Loc) (ls : Array Slot) (h : fX4_isBlank x0 σ = some (r, σ')) (hM : MS D cy ad A s.heap z σ H locs) (hl : lv_has ls 1 [(0, .int x0)]) : W p l e R s m args below meth c H locs 0 0 Q (F0 m 0 ls []) := by
  have hx := hC.1
  have hb := hC.2.1
  unfold fX4_isBlank at h
  refine lv_iload_n hx hb dX4_isBlank_0 rfl (lv_at hl 0 rfl) ?_
  refine lv_bipush (v := 32) hx hb dX4_isBlank_1 (by decide) ?_
  refine lv_icmp_eq (tgt := 12) hx hb dX4_isBlank_3 (by decide) (fun c1 => ?_) (fun c1 => ?_)
  · rw [if_pos c1] at h
    exact wX4_isBlank_b12 hC hG hR Kr _ _ _ _ h hM (lv_sub hl [] rfl)
  · rw [if_neg c1] at h
    refine lv_iload_n hx hb dX4_isBlank_6 rfl (lv_at hl 0 rfl) ?_
    refine lv_bipush (v := 10) hx hb dX4_isBlank_7 (by decide) ?_
    refine lv_icmp_ne (tgt := 16) hx hb dX4_isBlank_9 (by decide) (fun c2 => ?_) (fun c2 => ?_)
    · rw [if_neg c2] at h
      refine lv_iconst (v := 0) hx hb dX4_isBlank_16 (by decide) ?_
      exact wX4_isBlank_b17 hC hG hR Kr _ _ _ _ _ h hM (lv_sub hl [] rfl)
    · rw [if_pos c2] at h
      exact wX4_isBlank_b12 hC hG hR Kr _ _ _ _ h hM (lv_sub hl [] rfl)
theorem cX4_isBlank_ok {l : Launch} {D : va_G} {cy : Nat → ClassId} {ad : Nat → Nat} {A : Nat → Prop} {z : Nat} {r : Int32} {σ' : Mem} {x0 : Int32} {σ : Mem} (h : fX4_isBlank x0 σ = some (r, σ')) : CtI l yX4_isBlank cX4_isBlank 1 (some .boolean) 0 [.int x0] D cy ad A z σ r σ' :=
  enterZ (own := RX4) (by decide) rfl (Nat.le_of_ble_eq_true rfl) rfl (fun p e s m below meth c Q ls hC hG hM Kr hl => wX4_isBlank hC hG ⟨Nat.le_refl _, Nat.le_refl _⟩ Kr _ _ _ _ _ h hM hl)
/-! X4_mayFollow (I)Z -/
def fX4_mayFollow_b287   (y0 : Int32) (σ : Mem) : Option (Int32 × Mem) :=
  if y0 = 0 ∨ y0 = 1 then some (y0, σ) else none
set_option maxRecDepth 20000 in
theorem wX4_mayFollow_b287 {r : Int32} {σ' : Mem} (hC : CallFix p m c cX4_mayFollow 2 s args WALL RX4) (hG : GS D cy A s) (hR : 0 ≤ R.frames ∧ 0 ≤ R.locals) (Kr : KrZ p l e R s m args below meth c cX4_mayFollow Q D cy ad A z r σ')   (y0 : Int32) (σ : Mem) (H : Heap) (locs : List Loc) (ls : Array Slot) (h : fX4_mayFollow_b287 y0 σ = some (r, σ')) (hM : MS D cy ad A s.heap z σ H locs) (hl : lv_has ls 2 []) : W p l e R s m args below meth c H locs 0 0 Q (F0 m 287 ls [.int y0]) := by
  have hx := hC.1
  have hb := hC.2.1
  unfold fX4_mayFollow_b287 at h
  by_cases c1 : y0 = 0 ∨ y0 = 1
  · rw [if_pos c1] at h
    cases h
    exact Kr _ _ _ _ dX4_mayFollow_287 (nar01 c1) hM
  · rw [if_neg c1] at h
    cases h
def fX4_mayFollow_b274   (y0 : Int32) (σ : Mem) : Option (Int32 × Mem) :=
  if y0 = 0 ∨ y0 = 1 then some (y0, σ) else none
set_option maxRecDepth 20000 in
theorem wX4_mayFollow_b274 {r : Int32} {σ' : Mem} (hC : CallFix p m c cX4_mayFollow 2 s args WALL RX4) (hG : GS D cy A s) (hR : 0 ≤ R.frames ∧ 0 ≤ R.locals) (Kr : KrZ p l e R s m args below meth c cX4_mayFollow Q D cy ad A z r σ')   (y0 : Int32) (σ : Mem) (H : Heap) (locs : List Loc) (ls : Array Slot) (h : fX4_mayFollow_b274 y0 σ = some (r, σ')) (hM : MS D cy ad A s.heap z σ H locs) (hl : lv_has ls 2 []) : W p l e R s m args below meth c H locs 0 0 Q (F0 m 274 ls [.int y0]) := by
  have hx := hC.1
  have hb := hC.2.1
  unfold fX4_mayFollow_b274 at h
  by_cases c1 : y0 = 0 ∨ y0 = 1
  · rw [if_pos c1] at h
    cases h
    exact Kr _ _ _ _ dX4_mayFollow_274 (nar01 c1) hM
  · rw [if_neg c1] at h
    cases h
def fX4_mayFollow_b269    (σ : Mem) : Option (Int32 × Mem) :=
  fX4_mayFollow_b274 1 σ
set_option maxRecDepth 20000 in
theorem wX4_mayFollow_b269 {r : Int32} {σ' : Mem} (hC : CallFix p m c cX4_mayFollow 2 s args WALL RX4) (hG : GS D cy A s) (hR : 0 ≤ R.frames ∧ 0 ≤ R.locals) (Kr : KrZ p l e R s m args below meth c cX4_mayFollow Q D cy ad A z r σ')    (σ : Mem) (H : Heap) (locs : List Loc) (ls : Array Slot) (h : fX4_mayFollow_b269  σ = some (r, σ')) (hM : MS D cy ad A s.heap z σ H locs) (hl : lv_has ls 2 []) : W p l e R s m args below meth c H locs 0 0 Q (F0 m 269 ls []) := by
  have hx := hC.1
  have hb := hC.2.1
  unfold fX4_mayFollow_b269 at h
  refine lv_iconst (v := 1) hx hb dX4_mayFollow_269 (by decide) ?_
  refine lv_goto (tgt := 274) hx hb dX4_mayFollow_270 (by decide) ?_
  exact wX4_mayFollow_b274 hC hG hR Kr _ _ _ _ _ h hM (lv_sub hl [] rfl)
def fX4_mayFollow_b252   (y0 : Int32) (σ : Mem) : Option (Int32 × Mem) :=
  if y0 = 0 ∨ y0 = 1 then some (y0, σ) else none
set_option maxRecDepth 20000 in
theorem wX4_mayFollow_b252 {r : Int32} {σ' : Mem} (hC : CallFix p m c cX4_mayFollow 2 s args WALL RX4) (hG : GS D cy A s) (hR : 0 ≤ R.frames ∧ 0 ≤ R.locals) (Kr : KrZ p l e R s m args below meth c cX4_mayFollow Q D cy ad A z r σ')   (y0 : Int32) (σ : Mem) (H : Heap) (locs : List Loc) (ls : Array Slot) (h : fX4_mayFollow_b252 y0 σ = some (r, σ')) (hM : MS D cy ad A s.heap z σ H locs) (hl : lv_has ls 2 []) : W p l e R s m args below meth c H locs 0 0 Q (F0 m 252 ls [.int y0]) := by
  have hx := hC.1
  have hb := hC.2.1
  unfold fX4_mayFollow_b252 at h
  by_cases c1 : y0 = 0 ∨ y0 = 1
  · rw [if_pos c1] at h
    cases h
    exact Kr _ _ _ _ dX4_mayFollow_252 (nar01 c1) hM
  · rw [if_neg c1] at h
    cases h
def fX4_mayFollow_b237   (y0 : Int32) (σ : Mem) : Option (Int32 × Mem) :=
  if y0 = 0 ∨ y0 = 1 then some (y0, σ) else none
set_option maxRecDepth 20000 in
theorem wX4_mayFollow_b237 {r : Int32} {σ' : Mem} (hC : CallFix p m c cX4_mayFollow 2 s args WALL RX4) (hG : GS D cy A s) (hR : 0 ≤ R.frames ∧ 0 ≤ R.locals) (Kr : KrZ p l e R s m args below meth c cX4_mayFollow Q D cy ad A z r σ')   (y0 : Int32) (σ : Mem) (H : Heap) (locs : List Loc) (ls : Array Slot) (h : fX4_mayFollow_b237 y0 σ = some (r, σ')) (hM : MS D cy ad A s.heap z σ H locs) (hl : lv_has ls 2 []) : W p l e R s m args below meth c H locs 0 0 Q (F0 m 237 ls [.int y0]) := by
  have hx := hC.1
  have hb := hC.2.1
  unfold fX4_mayFollow_b237 at h
  by_cases c1 : y0 = 0 ∨ y0 = 1
  · rw [if_pos c1] at h
    cases h
    exact Kr _ _ _ _ dX4_mayFollow_237 (nar01 c1) hM
  · rw [if_neg c1] at h
    cases h
def fX4_mayFollow_b232    (σ : Mem) : Option (Int32 × Mem) :=
  fX4_mayFollow_b237 1 σ
set_option maxRecDepth 20000 in
theorem wX4_mayFollow_b232 {r : Int32} {σ' : Mem} (hC : CallFix p m c cX4_mayFollow 2 s args WALL RX4) (hG : GS D cy A s) (hR : 0 ≤ R.frames ∧ 0 ≤ R.locals) (Kr : KrZ p l e R s m args below meth c cX4_mayFollow Q D cy ad A z r σ')    (σ : Mem) (H : Heap) (locs : List Loc) (ls : Array Slot) (h : fX4_mayFollow_b232  σ = some (r, σ')) (hM : MS D cy ad A s.heap z σ H locs) (hl : lv_has ls 2 []) : W p l e R s m args below meth c H locs 0 0 Q (F0 m 232 ls []) := by
  have hx := hC.1
  have hb := hC.2.1
  unfold fX4_mayFollow_b232 at h
  refine lv_iconst (v := 1) hx hb dX4_mayFollow_232 (by decide) ?_
  refine lv_goto (tgt := 237) hx hb dX4_mayFollow_233 (by decide) ?_
  exact wX4_mayFollow_b237 hC hG hR Kr _ _ _ _ _ h hM (lv_sub hl [] rfl)
def fX4_mayFollow_b213   (y0 : Int32) (σ : Mem) : Option (Int32 × Mem) :=
  if y0 = 0 ∨ y0 = 1 then some (y0, σ) else none
set_option maxRecDepth 20000 in
theorem wX4_mayFollow_b213 {r : Int32} {σ' : Mem} (hC : CallFix p m c cX4_mayFollow 2 s args WALL RX4) (hG : GS D cy A s) (hR : 0 ≤ R.frames ∧ 0 ≤ R.locals) (Kr : KrZ p l e R s m args below meth c cX4_mayFollow Q D cy ad A z r σ')   (y0 : Int32) (σ : Mem) (H : Heap) (locs : List Loc) (ls : Array Slot) (h : fX4_mayFollow_b213 y0 σ = some (r, σ')) (hM : MS D cy ad A s.heap z σ H locs) (hl : lv_has ls 2 []) : W p l e R s m args below meth c H locs 0 0 Q (F0 m 213 ls [.int y0]) := by
  have hx := hC.1
  have hb := hC.2.1
  unfold fX4_mayFollow_b213 at h
  by_cases c1 : y0 = 0 ∨ y0 = 1
  · rw [if_pos c1] at h
    cases h
    exact Kr _ _ _ _ dX4_mayFollow_213 (nar01 c1) hM
  · rw [if_neg c1] at h
    cases h
def fX4_mayFollow_b208    (σ : Mem) : Option (Int32 × Mem) :=
  fX4_mayFollow_b213 1 σ
set_option maxRecDepth 20000 in
theorem wX4_mayFollow_b208 {r : Int32} {σ' : Mem} (hC : CallFix p m c cX4_mayFollow 2 s args WALL RX4) (hG : GS D cy A s) (hR : 0 ≤ R.frames ∧ 0 ≤ R.locals) (Kr : KrZ p l e R s m args below meth c cX4_mayFollow Q D cy ad A z r σ')    (σ : Mem) (H : Heap) (locs : List Loc) (ls : Array Slot) (h : fX4_mayFollow_b208  σ = some (r, σ')) (hM : MS D cy ad A s.heap z σ H locs) (hl : lv_has ls 2 []) : W p l e R s m args below meth c H locs 0 0 Q (F0 m 208 ls []) := by
  have hx := hC.1
  have hb := hC.2.1
  unfold fX4_mayFollow_b208 at h
  refine lv_iconst (v := 1) hx hb dX4_mayFollow_208 (by decide) ?_
  refine lv_goto (tgt := 213) hx hb dX4_mayFollow_209 (by decide) ?_
  exact wX4_mayFollow_b213 hC hG hR Kr _ _ _ _ _ h hM (lv_sub hl [] rfl)
def fX4_mayFollow_b180   (y0 : Int32) (σ : Mem) : Option (Int32 × Mem) :=
  if y0 = 0 ∨ y0 = 1 then some (y0, σ) else none
set_option maxRecDepth 20000 in
theorem wX4_mayFollow_b180 {r : Int32} {σ' : Mem} (hC : CallFix p m c cX4_mayFollow 2 s args WALL RX4) (hG : GS D cy A s) (hR : 0 ≤ R.frames ∧ 0 ≤ R.locals) (Kr : KrZ p l e R s m args below meth c cX4_mayFollow Q D cy ad A z r σ')   (y0 : Int32) (σ : Mem) (H : Heap) (locs : List Loc) (ls : Array Slot) (h : fX4_mayFollow_b180 y0 σ = some (r, σ')) (hM : MS D cy ad A s.heap z σ H locs) (hl : lv_has ls 2 []) : W p l e R s m args below meth c H locs 0 0 Q (F0 m 180 ls [.int y0]) := by
  have hx := hC.1
  have hb := hC.2.1
  unfold fX4_mayFollow_b180 at h
  by_cases c1 : y0 = 0 ∨ y0 = 1
  · rw [if_pos c1] at h
    cases h
    exact Kr _ _ _ _ dX4_mayFollow_180 (nar01 c1) hM
  · rw [if_neg c1] at h
    cases h
def fX4_mayFollow_b175    (σ : Mem) : Option (Int32 × Mem) :=
  fX4_mayFollow_b180 1 σ
set_option maxRecDepth 20000 in
theorem wX4_mayFollow_b175 {r : Int32} {σ' : Mem} (hC : CallFix p m c cX4_mayFollow 2 s args WALL RX4) (hG : GS D cy A s) (hR : 0 ≤ R.frames ∧ 0 ≤ R.locals) (Kr : KrZ p l e R s m args below meth c cX4_mayFollow Q D cy ad A z r σ')    (σ : Mem) (H : Heap) (locs : List Loc) (ls : Array Slot) (h : fX4_mayFollow_b175  σ = some (r, σ')) (hM : MS D cy ad A s.heap z σ H locs) (hl : lv_has ls 2 []) : W p l e R s m args below meth c H locs 0 0 Q (F0 m 175 ls []) := by
  have hx := hC.1
  have hb := hC.2.1
  unfold fX4_mayFollow_b175 at h
  refine lv_iconst (v := 1) hx hb dX4_mayFollow_175 (by decide) ?_
  refine lv_goto (tgt := 180) hx hb dX4_mayFollow_176 (by decide) ?_
  exact wX4_mayFollow_b180 hC hG hR Kr _ _ _ _ _ h hM (lv_sub hl [] rfl)
def fX4_mayFollow_b157   (y0 : Int32) (σ : Mem) : Option (Int32 × Mem) :=
  if y0 = 0 ∨ y0 = 1 then some (y0, σ) else none
set_option maxRecDepth 20000 in
theorem wX4_mayFollow_b157 {r : Int32} {σ' : Mem} (hC : CallFix p m c cX4_mayFollow 2 s args WALL RX4) (hG : GS D cy A s) (hR : 0 ≤ R.frames ∧ 0 ≤ R.locals) (Kr : KrZ p l e R s m args below meth c cX4_mayFollow Q D cy ad A z r σ')   (y0 : Int32) (σ : Mem) (H : Heap) (locs : List Loc) (ls : Array Slot) (h : fX4_mayFollow_b157 y0 σ = some (r, σ')) (hM : MS D cy ad A s.heap z σ H locs) (hl : lv_has ls 2 []) : W p l e R s m args below meth c H locs 0 0 Q (F0 m 157 ls [.int y0]) := by
  have hx := hC.1
  have hb := hC.2.1
  unfold fX4_mayFollow_b157 at h
  by_cases c1 : y0 = 0 ∨ y0 = 1
  · rw [if_pos c1] at h
    cases h
    exact Kr _ _ _ _ dX4_mayFollow_157 (nar01 c1) hM
  · rw [if_neg c1] at h
    cases h
def fX4_mayFollow_b143   (y0 : Int32) (σ : Mem) : Option (Int32 × Mem) :=
  if y0 = 0 ∨ y0 = 1 then some (y0, σ) else none
set_option maxRecDepth 20000 in
theorem wX4_mayFollow_b143 {r : Int32} {σ' : Mem} (hC : CallFix p m c cX4_mayFollow 2 s args WALL RX4) (hG : GS D cy A s) (hR : 0 ≤ R.frames ∧ 0 ≤ R.locals) (Kr : KrZ p l e R s m args below meth c cX4_mayFollow Q D cy ad A z r σ')   (y0 : Int32) (σ : Mem) (H : Heap) (locs : List Loc) (ls : Array Slot) (h : fX4_mayFollow_b143 y0 σ = some (r, σ')) (hM : MS D cy ad A s.heap z σ H locs) (hl : lv_has ls 2 []) : W p l e R s m args below meth c H locs 0 0 Q (F0 m 143 ls [.int y0]) := by
  have hx := hC.1
  have hb := hC.2.1
  unfold fX4_mayFollow_b143 at h
  by_cases c1 : y0 = 0 ∨ y0 = 1
  · rw [if_pos c1] at h
    cases h
    exact Kr _ _ _ _ dX4_mayFollow_143 (nar01 c1) hM
  · rw [if_neg c1] at h
    cases h
def fX4_mayFollow_b138    (σ : Mem) : Option (Int32 × Mem) :=
  fX4_mayFollow_b143 1 σ
set_option maxRecDepth 20000 in
theorem wX4_mayFollow_b138 {r : Int32} {σ' : Mem} (hC : CallFix p m c cX4_mayFollow 2 s args WALL RX4) (hG : GS D cy A s) (hR : 0 ≤ R.frames ∧ 0 ≤ R.locals) (Kr : KrZ p l e R s m args below meth c cX4_mayFollow Q D cy ad A z r σ')    (σ : Mem) (H : Heap) (locs : List Loc) (ls : Array Slot) (h : fX4_mayFollow_b138  σ = some (r, σ')) (hM : MS D cy ad A s.heap z σ H locs) (hl : lv_has ls 2 []) : W p l e R s m args below meth c H locs 0 0 Q (F0 m 138 ls []) := by
  have hx := hC.1
  have hb := hC.2.1
  unfold fX4_mayFollow_b138 at h
  refine lv_iconst (v := 1) hx hb dX4_mayFollow_138 (by decide) ?_
  refine lv_goto (tgt := 143) hx hb dX4_mayFollow_139 (by decide) ?_
  exact wX4_mayFollow_b143 hC hG hR Kr _ _ _ _ _ h hM (lv_sub hl [] rfl)
def fX4_mayFollow_b112   (y0 : Int32) (σ : Mem) : Option (Int32 × Mem) :=
  if y0 = 0 ∨ y0 = 1 then some (y0, σ) else none
set_option maxRecDepth 20000 in
theorem wX4_mayFollow_b112 {r : Int32} {σ' : Mem} (hC : CallFix p m c cX4_mayFollow 2 s args WALL RX4) (hG : GS D cy A s) (hR : 0 ≤ R.frames ∧ 0 ≤ R.locals) (Kr : KrZ p l e R s m args below meth c cX4_mayFollow Q D cy ad A z r σ')   (y0 : Int32) (σ : Mem) (H : Heap) (locs : List Loc) (ls : Array Slot) (h : fX4_mayFollow_b112 y0 σ = some (r, σ')) (hM : MS D cy ad A s.heap z σ H locs) (hl : lv_has ls 2 []) : W p l e R s m args below meth c H locs 0 0 Q (F0 m 112 ls [.int y0]) := by
  have hx := hC.1
  have hb := hC.2.1
  unfold fX4_mayFollow_b112 at h
  by_cases c1 : y0 = 0 ∨ y0 = 1
  · rw [if_pos c1] at h
    cases h
    exact Kr _ _ _ _ dX4_mayFollow_112 (nar01 c1) hM
  · rw [if_neg c1] at h
    cases h
def fX4_mayFollow_b107    (σ : Mem) : Option (Int32 × Mem) :=
  fX4_mayFollow_b112 1 σ
set_option maxRecDepth 20000 in
theorem wX4_mayFollow_b107 {r : Int32} {σ' : Mem} (hC : CallFix p m c cX4_mayFollow 2 s args WALL RX4) (hG : GS D cy A s) (hR : 0 ≤ R.frames ∧ 0 ≤ R.locals) (Kr : KrZ p l e R s m args below meth c cX4_mayFollow Q D cy ad A z r σ')    (σ : Mem) (H : Heap) (locs : List Loc) (ls : Array Slot) (h : fX4_mayFollow_b107  σ = some (r, σ')) (hM : MS D cy ad A s.heap z σ H locs) (hl : lv_has ls 2 []) : W p l e R s m args below meth c H locs 0 0 Q (F0 m 107 ls []) := by
  have hx := hC.1
  have hb := hC.2.1
  unfold fX4_mayFollow_b107 at h
  refine lv_iconst (v := 1) hx hb dX4_mayFollow_107 (by decide) ?_
  refine lv_goto (tgt := 112) hx hb dX4_mayFollow_108 (by decide) ?_
  exact wX4_mayFollow_b112 hC hG hR Kr _ _ _ _ _ h hM (lv_sub hl [] rfl)
def fX4_mayFollow_b73   (y0 : Int32) (σ : Mem) : Option (Int32 × Mem) :=
  if y0 = 0 ∨ y0 = 1 then some (y0, σ) else none
set_option maxRecDepth 20000 in
theorem wX4_mayFollow_b73 {r : Int32} {σ' : Mem} (hC : CallFix p m c cX4_mayFollow 2 s args WALL RX4) (hG : GS D cy A s) (hR : 0 ≤ R.frames ∧ 0 ≤ R.locals) (Kr : KrZ p l e R s m args below meth c cX4_mayFollow Q D cy ad A z r σ')   (y0 : Int32) (σ : Mem) (H : Heap) (locs : List Loc) (ls : Array Slot) (h : fX4_mayFollow_b73 y0 σ = some (r, σ')) (hM : MS D cy ad A s.heap z σ H locs) (hl : lv_has ls 2 []) : W p l e R s m args below meth c H locs 0 0 Q (F0 m 73 ls [.int y0]) := by
  have hx := hC.1
  have hb := hC.2.1
  unfold fX4_mayFollow_b73 at h
  by_cases c1 : y0 = 0 ∨ y0 = 1
  · rw [if_pos c1] at h
    cases h
    exact Kr _ _ _ _ dX4_mayFollow_73 (nar01 c1) hM
  · rw [if_neg c1] at h
    cases h
def fX4_mayFollow (o0 : Nat) (x1 : Int32) (σ : Mem) : Option (Int32 × Mem) :=
  (if x1 = 0 then (fI σ 4 11 (some o0)).bind fun t2 =>
      if t2 = 1 then fX4_mayFollow_b73 1 σ
      else fX4_mayFollow_b73 0 σ else if x1 = 1 then (fI σ 4 11 (some o0)).bind fun t5 =>
        if t5 = 2 then fX4_mayFollow_b107 σ
        else (fI σ 4 11 (some o0)).bind fun t7 =>
          if t7 = 3 then fX4_mayFollow_b107 σ
          else (fI σ 4 11 (some o0)).bind fun t9 =>
            if t9 = 5 then fX4_mayFollow_b107 σ
            else (fI σ 4 11 (some o0)).bind fun t11 =>
              if t11 = 10 then fX4_mayFollow_b107 σ
              else fX4_mayFollow_b112 0 σ else if x1 = 2 then (fI σ 4 11 (some o0)).bind fun t14 =>
          if t14 = 3 then fX4_mayFollow_b138 σ
          else (fI σ 4 11 (some o0)).bind fun t16 =>
            if t16 = 5 then fX4_mayFollow_b138 σ
            else (fI σ 4 11 (some o0)).bind fun t18 =>
              if t18 = 10 then fX4_mayFollow_b138 σ
              else fX4_mayFollow_b143 0 σ else if x1 = 3 then (fI σ 4 11 (some o0)).bind fun t21 =>
            if t21 = 4 then fX4_mayFollow_b157 1 σ
            else fX4_mayFollow_b157 0 σ else if x1 = 4 then (fI σ 4 11 (some o0)).bind fun t24 =>
              if t24 = 5 then fX4_mayFollow_b175 σ
              else (fI σ 4 11 (some o0)).bind fun t26 =>
                if t26 = 10 then fX4_mayFollow_b175 σ
                else fX4_mayFollow_b180 0 σ else if x1 = 5 then (fI σ 4 11 (some o0)).bind fun t29 =>
                if t29 = 6 then fX4_mayFollow_b208 σ
                else (fI σ 4 11 (some o0)).bind fun t31 =>
                  if t31 = 7 then fX4_mayFollow_b208 σ
                  else (fI σ 4 11 (some o0)).bind fun t33 =>
                    if t33 = 9 then fX4_mayFollow_b208 σ
                    else fX4_mayFollow_b213 0 σ else if x1 = 6 then (fI σ 4 11 (some o0)).bind fun t36 =>
                  if t36 = 7 then fX4_mayFollow_b232 σ
                  else (fI σ 4 11 (some o0)).bind fun t38 =>
                    if t38 = 9 then fX4_mayFollow_b232 σ
                    else fX4_mayFollow_b237 0 σ else if x1 = 7 then (fI σ 4 11 (some o0)).bind fun t41 =>
                    if t41 = 8 then fX4_mayFollow_b252 1 σ
                    else fX4_mayFollow_b252 0 σ else if x1 = 8 then (fI σ 4 11 (some o0)).bind fun t44 =>
                      if t44 = 7 then fX4_mayFollow_b232 σ
                      else (fI σ 4 11 (some o0)).bind fun t46 =>
                        if t46 = 9 then fX4_mayFollow_b232 σ
                        else fX4_mayFollow_b237 0 σ else if x1 = 9 then (fI σ 4 11 (some o0)).bind fun t49 =>
                        if t49 = 5 then fX4_mayFollow_b175 σ
                        else (fI σ 4 11 (some o0)).bind fun t51 =>
                          if t51 = 10 then fX4_mayFollow_b175 σ
                          else fX4_mayFollow_b180 0 σ else if x1 = 10 then (fI σ 4 11 (some o0)).bind fun t54 =>
                          if t54 = 0 then fX4_mayFollow_b269 σ
                          else (fI σ 4 11 (some o0)).bind fun t56 =>
                            if t56 = 11 then fX4_mayFollow_b269 σ
                            else fX4_mayFollow_b274 0 σ else (fI σ 4 11 (some o0)).bind fun t58 =>
                          if t58 = 0 then fX4_mayFollow_b287 1 σ
                          else fX4_mayFollow_b287 0 σ)
set_option maxRecDepth 20000 in
theorem wX4_mayFollow {r : Int32} {σ' : Mem} (hC : CallFix p m c cX4_mayFollow 2 s args WALL RX4) (hG : GS D cy A s) (hR : 0 ≤ R.frames ∧ 0 ≤ R.locals) (Kr : KrZ p l e R s m args below meth c cX4_mayFollow Q D cy ad A z r σ') (o0 : Nat) (x1 : Int32) (σ : Mem) (H : Heap) (locs : List Loc) (ls : Array Slot) (h : fX4_mayFollow o0 x1 σ = some (r, σ')) (hM : MS D cy ad A s.heap z σ H locs) (hl : lv_has ls 2 [(0, va_rf (Option.map ad (some o0))), (1, .int x1)]) : W p l e R s m args below meth c H locs 0 0 Q (F0 m 0 ls []) := by
  have hx := hC.1
  have hb := hC.2.1
  unfold fX4_mayFollow at h
  refine lv_iload_n hx hb dX4_mayFollow_0 rfl (lv_at hl 1 rfl) ?_
  by_cases c1 : x1 = 0
  · rw [if_pos c1] at h
    refine lv_tableIn (tgt := 60) hx hb dX4_mayFollow_1 (by rw [c1]; decide) (by rw [c1]; decide) (by rw [c1]; rfl) (by decide) ?_
    refine lr_aload_n hx hb dX4_mayFollow_60 rfl (lv_at hl 0 rfl) ?_
    obtain ⟨t2, e_t2, h⟩ := bn h
    refine gf_X4_45 hC hG hM e_t2 dX4_mayFollow_61 ?_
    refine lv_iconst (v := 1) hx hb dX4_mayFollow_64 (by decide) ?_
    refine lv_icmp_ne (tgt := 72) hx hb dX4_mayFollow_65 (by decide) (fun c3 => ?_) (fun c3 => ?_)
    · rw [if_neg c3] at h
      refine lv_iconst (v := 0) hx hb dX4_mayFollow_72 (by decide) ?_
      exact wX4_mayFollow_b73 hC hG hR Kr _ _ _ _ _ h hM (lv_sub hl [] rfl)
    · rw [if_pos c3] at h
      refine lv_iconst (v := 1) hx hb dX4_mayFollow_68 (by decide) ?_
      refine lv_goto (tgt := 73) hx hb dX4_mayFollow_69 (by decide) ?_
      exact wX4_mayFollow_b73 hC hG hR Kr _ _ _ _ _ h hM (lv_sub hl [] rfl)
  · rw [if_neg c1] at h
    by_cases c4 : x1 = 1
    · rw [if_pos c4] at h
      refine lv_tableIn (tgt := 74) hx hb dX4_mayFollow_1 (by rw [c4]; decide) (by rw [c4]; decide) (by rw [c4]; rfl) (by decide) ?_
      refine lr_aload_n hx hb dX4_mayFollow_74 rfl (lv_at hl 0 rfl) ?_
      obtain ⟨t5, e_t5, h⟩ := bn h
      refine gf_X4_45 hC hG hM e_t5 dX4_mayFollow_75 ?_
      refine lv_iconst (v := 2) hx hb dX4_mayFollow_78 (by decide) ?_
      refine lv_icmp_eq (tgt := 107) hx hb dX4_mayFollow_79 (by decide) (fun c6 => ?_) (fun c6 => ?_)
      · rw [if_pos c6] at h
        exact wX4_mayFollow_b107 hC hG hR Kr _ _ _ _ h hM (lv_sub hl [] rfl)
      · rw [if_neg c6] at h
        refine lr_aload_n hx hb dX4_mayFollow_82 rfl (lv_at hl 0 rfl) ?_
        obtain ⟨t7, e_t7, h⟩ := bn h
        refine gf_X4_45 hC hG hM e_t7 dX4_mayFollow_83 ?_
        refine lv_iconst (v := 3) hx hb dX4_mayFollow_86 (by decide) ?_
        refine lv_icmp_eq (tgt := 107) hx hb dX4_mayFollow_87 (by decide) (fun c8 => ?_) (fun c8 => ?_)
        · rw [if_pos c8] at h
          exact wX4_mayFollow_b107 hC hG hR Kr _ _ _ _ h hM (lv_sub hl [] rfl)
        · rw [if_neg c8] at h
          refine lr_aload_n hx hb dX4_mayFollow_90 rfl (lv_at hl 0 rfl) ?_
          obtain ⟨t9, e_t9, h⟩ := bn h
          refine gf_X4_45 hC hG hM e_t9 dX4_mayFollow_91 ?_
          refine lv_iconst (v := 5) hx hb dX4_mayFollow_94 (by decide) ?_
          refine lv_icmp_eq (tgt := 107) hx hb dX4_mayFollow_95 (by decide) (fun c10 => ?_) (fun c10 => ?_)
          · rw [if_pos c10] at h
            exact wX4_mayFollow_b107 hC hG hR Kr _ _ _ _ h hM (lv_sub hl [] rfl)
          · rw [if_neg c10] at h
            refine lr_aload_n hx hb dX4_mayFollow_98 rfl (lv_at hl 0 rfl) ?_
            obtain ⟨t11, e_t11, h⟩ := bn h
            refine gf_X4_45 hC hG hM e_t11 dX4_mayFollow_99 ?_
            refine lv_bipush (v := 10) hx hb dX4_mayFollow_102 (by decide) ?_
            refine lv_icmp_ne (tgt := 111) hx hb dX4_mayFollow_104 (by decide) (fun c12 => ?_) (fun c12 => ?_)
            · rw [if_neg c12] at h
              refine lv_iconst (v := 0) hx hb dX4_mayFollow_111 (by decide) ?_
              exact wX4_mayFollow_b112 hC hG hR Kr _ _ _ _ _ h hM (lv_sub hl [] rfl)
            · rw [if_pos c12] at h
              exact wX4_mayFollow_b107 hC hG hR Kr _ _ _ _ h hM (lv_sub hl [] rfl)
    · rw [if_neg c4] at h
      by_cases c13 : x1 = 2
      · rw [if_pos c13] at h
        refine lv_tableIn (tgt := 113) hx hb dX4_mayFollow_1 (by rw [c13]; decide) (by rw [c13]; decide) (by rw [c13]; rfl) (by decide) ?_
        refine lr_aload_n hx hb dX4_mayFollow_113 rfl (lv_at hl 0 rfl) ?_
        obtain ⟨t14, e_t14, h⟩ := bn h
        refine gf_X4_45 hC hG hM e_t14 dX4_mayFollow_114 ?_
        refine lv_iconst (v := 3) hx hb dX4_mayFollow_117 (by decide) ?_
        refine lv_icmp_eq (tgt := 138) hx hb dX4_mayFollow_118 (by decide) (fun c15 => ?_) (fun c15 => ?_)
        · rw [if_pos c15] at h
          exact wX4_mayFollow_b138 hC hG hR Kr _ _ _ _ h hM (lv_sub hl [] rfl)
        · rw [if_neg c15] at h
          refine lr_aload_n hx hb dX4_mayFollow_121 rfl (lv_at hl 0 rfl) ?_
          obtain ⟨t16, e_t16, h⟩ := bn h
          refine gf_X4_45 hC hG hM e_t16 dX4_mayFollow_122 ?_
          refine lv_iconst (v := 5) hx hb dX4_mayFollow_125 (by decide) ?_
          refine lv_icmp_eq (tgt := 138) hx hb dX4_mayFollow_126 (by decide) (fun c17 => ?_) (fun c17 => ?_)
          · rw [if_pos c17] at h
            exact wX4_mayFollow_b138 hC hG hR Kr _ _ _ _ h hM (lv_sub hl [] rfl)
          · rw [if_neg c17] at h
            refine lr_aload_n hx hb dX4_mayFollow_129 rfl (lv_at hl 0 rfl) ?_
            obtain ⟨t18, e_t18, h⟩ := bn h
            refine gf_X4_45 hC hG hM e_t18 dX4_mayFollow_130 ?_
            refine lv_bipush (v := 10) hx hb dX4_mayFollow_133 (by decide) ?_
            refine lv_icmp_ne (tgt := 142) hx hb dX4_mayFollow_135 (by decide) (fun c19 => ?_) (fun c19 => ?_)
            · rw [if_neg c19] at h
              refine lv_iconst (v := 0) hx hb dX4_mayFollow_142 (by decide) ?_
              exact wX4_mayFollow_b143 hC hG hR Kr _ _ _ _ _ h hM (lv_sub hl [] rfl)
            · rw [if_pos c19] at h
              exact wX4_mayFollow_b138 hC hG hR Kr _ _ _ _ h hM (lv_sub hl [] rfl)
      · rw [if_neg c13] at h
        by_cases c20 : x1 = 3
        · rw [if_pos c20] at h
          refine lv_tableIn (tgt := 144) hx hb dX4_mayFollow_1 (by rw [c20]; decide) (by rw [c20]; decide) (by rw [c20]; rfl) (by decide) ?_
          refine lr_aload_n hx hb dX4_mayFollow_144 rfl (lv_at hl 0 rfl) ?_
          obtain ⟨t21, e_t21, h⟩ := bn h
          refine gf_X4_45 hC hG hM e_t21 dX4_mayFollow_145 ?_
          refine lv_iconst (v := 4) hx hb dX4_mayFollow_148 (by decide) ?_
          refine lv_icmp_ne (tgt := 156) hx hb dX4_mayFollow_149 (by decide) (fun c22 => ?_) (fun c22 => ?_)
          · rw [if_neg c22] at h
            refine lv_iconst (v := 0) hx hb dX4_mayFollow_156 (by decide) ?_
            exact wX4_mayFollow_b157 hC hG hR Kr _ _ _ _ _ h hM (lv_sub hl [] rfl)
          · rw [if_pos c22] at h
            refine lv_iconst (v := 1) hx hb dX4_mayFollow_152 (by decide) ?_
            refine lv_goto (tgt := 157) hx hb dX4_mayFollow_153 (by decide) ?_
            exact wX4_mayFollow_b157 hC hG hR Kr _ _ _ _ _ h hM (lv_sub hl [] rfl)
        · rw [if_neg c20] at h
          by_cases c23 : x1 = 4
          · rw [if_pos c23] at h
            refine lv_tableIn (tgt := 158) hx hb dX4_mayFollow_1 (by rw [c23]; decide) (by rw [c23]; decide) (by rw [c23]; rfl) (by decide) ?_
            refine lr_aload_n hx hb dX4_mayFollow_158 rfl (lv_at hl 0 rfl) ?_
            obtain ⟨t24, e_t24, h⟩ := bn h
            refine gf_X4_45 hC hG hM e_t24 dX4_mayFollow_159 ?_
            refine lv_iconst (v := 5) hx hb dX4_mayFollow_162 (by decide) ?_
            refine lv_icmp_eq (tgt := 175) hx hb dX4_mayFollow_163 (by decide) (fun c25 => ?_) (fun c25 => ?_)
            · rw [if_pos c25] at h
              exact wX4_mayFollow_b175 hC hG hR Kr _ _ _ _ h hM (lv_sub hl [] rfl)
            · rw [if_neg c25] at h
              refine lr_aload_n hx hb dX4_mayFollow_166 rfl (lv_at hl 0 rfl) ?_
              obtain ⟨t26, e_t26, h⟩ := bn h
              refine gf_X4_45 hC hG hM e_t26 dX4_mayFollow_167 ?_
              refine lv_bipush (v := 10) hx hb dX4_mayFollow_170 (by decide) ?_
              refine lv_icmp_ne (tgt := 179) hx hb dX4_mayFollow_172 (by decide) (fun c27 => ?_) (fun c27 => ?_)
              · rw [if_neg c27] at h
                refine lv_iconst (v := 0) hx hb dX4_mayFollow_179 (by decide) ?_
                exact wX4_mayFollow_b180 hC hG hR Kr _ _ _ _ _ h hM (lv_sub hl [] rfl)
              · rw [if_pos c27] at h
                exact wX4_mayFollow_b175 hC hG hR Kr _ _ _ _ h hM (lv_sub hl [] rfl)
          · rw [if_neg c23] at h
            by_cases c28 : x1 = 5
            · rw [if_pos c28] at h
              refine lv_tableIn (tgt := 181) hx hb dX4_mayFollow_1 (by rw [c28]; decide) (by rw [c28]; decide) (by rw [c28]; rfl) (by decide) ?_
              refine lr_aload_n hx hb dX4_mayFollow_181 rfl (lv_at hl 0 rfl) ?_
              obtain ⟨t29, e_t29, h⟩ := bn h
              refine gf_X4_45 hC hG hM e_t29 dX4_mayFollow_182 ?_
              refine lv_bipush (v := 6) hx hb dX4_mayFollow_185 (by decide) ?_
              refine lv_icmp_eq (tgt := 208) hx hb dX4_mayFollow_187 (by decide) (fun c30 => ?_) (fun c30 => ?_)
              · rw [if_pos c30] at h
                exact wX4_mayFollow_b208 hC hG hR Kr _ _ _ _ h hM (lv_sub hl [] rfl)
              · rw [if_neg c30] at h
                refine lr_aload_n hx hb dX4_mayFollow_190 rfl (lv_at hl 0 rfl) ?_
                obtain ⟨t31, e_t31, h⟩ := bn h
                refine gf_X4_45 hC hG hM e_t31 dX4_mayFollow_191 ?_
                refine lv_bipush (v := 7) hx hb dX4_mayFollow_194 (by decide) ?_
                refine lv_icmp_eq (tgt := 208) hx hb dX4_mayFollow_196 (by decide) (fun c32 => ?_) (fun c32 => ?_)
                · rw [if_pos c32] at h
                  exact wX4_mayFollow_b208 hC hG hR Kr _ _ _ _ h hM (lv_sub hl [] rfl)
                · rw [if_neg c32] at h
                  refine lr_aload_n hx hb dX4_mayFollow_199 rfl (lv_at hl 0 rfl) ?_
                  obtain ⟨t33, e_t33, h⟩ := bn h
                  refine gf_X4_45 hC hG hM e_t33 dX4_mayFollow_200 ?_
                  refine lv_bipush (v := 9) hx hb dX4_mayFollow_203 (by decide) ?_
                  refine lv_icmp_ne (tgt := 212) hx hb dX4_mayFollow_205 (by decide) (fun c34 => ?_) (fun c34 => ?_)
                  · rw [if_neg c34] at h
                    refine lv_iconst (v := 0) hx hb dX4_mayFollow_212 (by decide) ?_
                    exact wX4_mayFollow_b213 hC hG hR Kr _ _ _ _ _ h hM (lv_sub hl [] rfl)
                  · rw [if_pos c34] at h
                    exact wX4_mayFollow_b208 hC hG hR Kr _ _ _ _ h hM (lv_sub hl [] rfl)
            · rw [if_neg c28] at h
              by_cases c35 : x1 = 6
              · rw [if_pos c35] at h
                refine lv_tableIn (tgt := 214) hx hb dX4_mayFollow_1 (by rw [c35]; decide) (by rw [c35]; decide) (by rw [c35]; rfl) (by decide) ?_
                refine lr_aload_n hx hb dX4_mayFollow_214 rfl (lv_at hl 0 rfl) ?_
                obtain ⟨t36, e_t36, h⟩ := bn h
                refine gf_X4_45 hC hG hM e_t36 dX4_mayFollow_215 ?_
                refine lv_bipush (v := 7) hx hb dX4_mayFollow_218 (by decide) ?_
                refine lv_icmp_eq (tgt := 232) hx hb dX4_mayFollow_220 (by decide) (fun c37 => ?_) (fun c37 => ?_)
                · rw [if_pos c37] at h
                  exact wX4_mayFollow_b232 hC hG hR Kr _ _ _ _ h hM (lv_sub hl [] rfl)
                · rw [if_neg c37] at h
                  refine lr_aload_n hx hb dX4_mayFollow_223 rfl (lv_at hl 0 rfl) ?_
                  obtain ⟨t38, e_t38, h⟩ := bn h
                  refine gf_X4_45 hC hG hM e_t38 dX4_mayFollow_224 ?_
                  refine lv_bipush (v := 9) hx hb dX4_mayFollow_227 (by decide) ?_
                  refine lv_icmp_ne (tgt := 236) hx hb dX4_mayFollow_229 (by decide) (fun c39 => ?_) (fun c39 => ?_)
                  · rw [if_neg c39] at h
                    refine lv_iconst (v := 0) hx hb dX4_mayFollow_236 (by decide) ?_
                    exact wX4_mayFollow_b237 hC hG hR Kr _ _ _ _ _ h hM (lv_sub hl [] rfl)
                  · rw [if_pos c39] at h
                    exact wX4_mayFollow_b232 hC hG hR Kr _ _ _ _ h hM (lv_sub hl [] rfl)
              · rw [if_neg c35] at h
                by_cases c40 : x1 = 7
                · rw [if_pos c40] at h
                  refine lv_tableIn (tgt := 238) hx hb dX4_mayFollow_1 (by rw [c40]; decide) (by rw [c40]; decide) (by rw [c40]; rfl) (by decide) ?_
                  refine lr_aload_n hx hb dX4_mayFollow_238 rfl (lv_at hl 0 rfl) ?_
                  obtain ⟨t41, e_t41, h⟩ := bn h
                  refine gf_X4_45 hC hG hM e_t41 dX4_mayFollow_239 ?_
                  refine lv_bipush (v := 8) hx hb dX4_mayFollow_242 (by decide) ?_
                  refine lv_icmp_ne (tgt := 251) hx hb dX4_mayFollow_244 (by decide) (fun c42 => ?_) (fun c42 => ?_)
                  · rw [if_neg c42] at h
                    refine lv_iconst (v := 0) hx hb dX4_mayFollow_251 (by decide) ?_
                    exact wX4_mayFollow_b252 hC hG hR Kr _ _ _ _ _ h hM (lv_sub hl [] rfl)
                  · rw [if_pos c42] at h
                    refine lv_iconst (v := 1) hx hb dX4_mayFollow_247 (by decide) ?_
                    refine lv_goto (tgt := 252) hx hb dX4_mayFollow_248 (by decide) ?_
                    exact wX4_mayFollow_b252 hC hG hR Kr _ _ _ _ _ h hM (lv_sub hl [] rfl)
                · rw [if_neg c40] at h
                  by_cases c43 : x1 = 8
                  · rw [if_pos c43] at h
                    refine lv_tableIn (tgt := 214) hx hb dX4_mayFollow_1 (by rw [c43]; decide) (by rw [c43]; decide) (by rw [c43]; rfl) (by decide) ?_
                    refine lr_aload_n hx hb dX4_mayFollow_214 rfl (lv_at hl 0 rfl) ?_
                    obtain ⟨t44, e_t44, h⟩ := bn h
                    refine gf_X4_45 hC hG hM e_t44 dX4_mayFollow_215 ?_
                    refine lv_bipush (v := 7) hx hb dX4_mayFollow_218 (by decide) ?_
                    refine lv_icmp_eq (tgt := 232) hx hb dX4_mayFollow_220 (by decide) (fun c45 => ?_) (fun c45 => ?_)
                    · rw [if_pos c45] at h
                      exact wX4_mayFollow_b232 hC hG hR Kr _ _ _ _ h hM (lv_sub hl [] rfl)
                    · rw [if_neg c45] at h
                      refine lr_aload_n hx hb dX4_mayFollow_223 rfl (lv_at hl 0 rfl) ?_
                      obtain ⟨t46, e_t46, h⟩ := bn h
                      refine gf_X4_45 hC hG hM e_t46 dX4_mayFollow_224 ?_
                      refine lv_bipush (v := 9) hx hb dX4_mayFollow_227 (by decide) ?_
                      refine lv_icmp_ne (tgt := 236) hx hb dX4_mayFollow_229 (by decide) (fun c47 => ?_) (fun c47 => ?_)
                      · rw [if_neg c47] at h
                        refine lv_iconst (v := 0) hx hb dX4_mayFollow_236 (by decide) ?_
                        exact wX4_mayFollow_b237 hC hG hR Kr _ _ _ _ _ h hM (lv_sub hl [] rfl)
                      · rw [if_pos c47] at h
                        exact wX4_mayFollow_b232 hC hG hR Kr _ _ _ _ h hM (lv_sub hl [] rfl)
                  · rw [if_neg c43] at h
                    by_cases c48 : x1 = 9
                    · rw [if_pos c48] at h
                      refine lv_tableIn (tgt := 158) hx hb dX4_mayFollow_1 (by rw [c48]; decide) (by rw [c48]; decide) (by rw [c48]; rfl) (by decide) ?_
                      refine lr_aload_n hx hb dX4_mayFollow_158 rfl (lv_at hl 0 rfl) ?_
                      obtain ⟨t49, e_t49, h⟩ := bn h
                      refine gf_X4_45 hC hG hM e_t49 dX4_mayFollow_159 ?_
                      refine lv_iconst (v := 5) hx hb dX4_mayFollow_162 (by decide) ?_
                      refine lv_icmp_eq (tgt := 175) hx hb dX4_mayFollow_163 (by decide) (fun c50 => ?_) (fun c50 => ?_)
                      · rw [if_pos c50] at h
                        exact wX4_mayFollow_b175 hC hG hR Kr _ _ _ _ h hM (lv_sub hl [] rfl)
                      · rw [if_neg c50] at h
                        refine lr_aload_n hx hb dX4_mayFollow_166 rfl (lv_at hl 0 rfl) ?_
                        obtain ⟨t51, e_t51, h⟩ := bn h
                        refine gf_X4_45 hC hG hM e_t51 dX4_mayFollow_167 ?_
                        refine lv_bipush (v := 10) hx hb dX4_mayFollow_170 (by decide) ?_
                        refine lv_icmp_ne (tgt := 179) hx hb dX4_mayFollow_172 (by decide) (fun c52 => ?_) (fun c52 => ?_)
                        · rw [if_neg c52] at h
                          refine lv_iconst (v := 0) hx hb dX4_mayFollow_179 (by decide) ?_
                          exact wX4_mayFollow_b180 hC hG hR Kr _ _ _ _ _ h hM (lv_sub hl [] rfl)
                        · rw [if_pos c52] at h
                          exact wX4_mayFollow_b175 hC hG hR Kr _ _ _ _ h hM (lv_sub hl [] rfl)
                    · rw [if_neg c48] at h
                      by_cases c53 : x1 = 10
                      · rw [if_pos c53] at h
                        refine lv_tableIn (tgt := 253) hx hb dX4_mayFollow_1 (by rw [c53]; decide) (by rw [c53]; decide) (by rw [c53]; rfl) (by decide) ?_
                        refine lr_aload_n hx hb dX4_mayFollow_253 rfl (lv_at hl 0 rfl) ?_
                        obtain ⟨t54, e_t54, h⟩ := bn h
                        refine gf_X4_45 hC hG hM e_t54 dX4_mayFollow_254 ?_
                        refine lv_if_eq (tgt := 269) hx hb dX4_mayFollow_257 (by decide) (fun c55 => ?_) (fun c55 => ?_)
                        · rw [if_pos c55] at h
                          exact wX4_mayFollow_b269 hC hG hR Kr _ _ _ _ h hM (lv_sub hl [] rfl)
                        · rw [if_neg c55] at h
                          refine lr_aload_n hx hb dX4_mayFollow_260 rfl (lv_at hl 0 rfl) ?_
                          obtain ⟨t56, e_t56, h⟩ := bn h
                          refine gf_X4_45 hC hG hM e_t56 dX4_mayFollow_261 ?_
                          refine lv_bipush (v := 11) hx hb dX4_mayFollow_264 (by decide) ?_
                          refine lv_icmp_ne (tgt := 273) hx hb dX4_mayFollow_266 (by decide) (fun c57 => ?_) (fun c57 => ?_)
                          · rw [if_neg c57] at h
                            refine lv_iconst (v := 0) hx hb dX4_mayFollow_273 (by decide) ?_
                            exact wX4_mayFollow_b274 hC hG hR Kr _ _ _ _ _ h hM (lv_sub hl [] rfl)
                          · rw [if_pos c57] at h
                            exact wX4_mayFollow_b269 hC hG hR Kr _ _ _ _ h hM (lv_sub hl [] rfl)
                      · rw [if_neg c53] at h
                        refine lv_tableOut (tgt := 275) hx hb dX4_mayFollow_1 (by have n_c1 := lv_neT c1 (show (0 : Int32).toInt = 0 from rfl); have n_c4 := lv_neT c4 (show (1 : Int32).toInt = 1 from rfl); have n_c13 := lv_neT c13 (show (2 : Int32).toInt = 2 from rfl); have n_c20 := lv_neT c20 (show (3 : Int32).toInt = 3 from rfl); have n_c23 := lv_neT c23 (show (4 : Int32).toInt = 4 from rfl); have n_c28 := lv_neT c28 (show (5 : Int32).toInt = 5 from rfl); have n_c35 := lv_neT c35 (show (6 : Int32).toInt = 6 from rfl); have n_c40 := lv_neT c40 (show (7 : Int32).toInt = 7 from rfl); have n_c43 := lv_neT c43 (show (8 : Int32).toInt = 8 from rfl); have n_c48 := lv_neT c48 (show (9 : Int32).toInt = 9 from rfl); have n_c53 := lv_neT c53 (show (10 : Int32).toInt = 10 from rfl); omega) (by decide) ?_
                        refine lr_aload_n hx hb dX4_mayFollow_275 rfl (lv_at hl 0 rfl) ?_
                        obtain ⟨t58, e_t58, h⟩ := bn h
                        refine gf_X4_45 hC hG hM e_t58 dX4_mayFollow_276 ?_
                        refine lv_if_ne (tgt := 286) hx hb dX4_mayFollow_279 (by decide) (fun c59 => ?_) (fun c59 => ?_)
                        · rw [if_neg c59] at h
                          refine lv_iconst (v := 0) hx hb dX4_mayFollow_286 (by decide) ?_
                          exact wX4_mayFollow_b287 hC hG hR Kr _ _ _ _ _ h hM (lv_sub hl [] rfl)
                        · rw [if_pos c59] at h
                          refine lv_iconst (v := 1) hx hb dX4_mayFollow_282 (by decide) ?_
                          refine lv_goto (tgt := 287) hx hb dX4_mayFollow_283 (by decide) ?_
                          exact wX4_mayFollow_b287 hC hG hR Kr _ _ _ _ _ h hM (lv_sub hl [] rfl)
theorem cX4_mayFollow_ok {l : Launch} {D : va_G} {cy : Nat → ClassId} {ad : Nat → Nat} {A : Nat → Prop} {z : Nat} {r : Int32} {σ' : Mem} {o0 : Nat} {x1 : Int32} {σ : Mem} (h : fX4_mayFollow o0 x1 σ = some (r, σ')) : CtI l yX4_mayFollow cX4_mayFollow 2 (some .boolean) 0 [.ref (ad o0), .int x1] D cy ad A z σ r σ' :=
  enterZ (own := RX4) (by decide) rfl (Nat.le_of_ble_eq_true rfl) rfl (fun p e s m below meth c Q ls hC hG hM Kr hl => wX4_mayFollow hC hG ⟨Nat.le_refl _, Nat.le_refl _⟩ Kr _ _ _ _ _ _ h hM hl)
/-! X4_refuse (I)Z -/
def fX4_refuse (o0 : Nat) (x1 : Int32) (σ : Mem) : Option (Int32 × Mem) :=
  (pI σ 4 4 (some o0) x1).bind fun m1 =>
    (fI m1 4 7 (some o0)).bind fun t2 =>
    (pI m1 4 5 (some o0) t2).bind fun m3 =>
    some (0, m3)
set_option maxRecDepth 20000 in
theorem wX4_refuse {r : Int32} {σ' : Mem} (hC : CallFix p m c cX4_refuse 2 s args WALL RX4) (hG : GS D cy A s) (hR : 0 ≤ R.frames ∧ 0 ≤ R.locals) (Kr : KrZ p l e R s m args below meth c cX4_refuse Q D cy ad A z r σ') (o0 : Nat) (x1 : Int32) (σ : Mem) (H : Heap) (locs : List Loc) (ls : Array Slot) (h : fX4_refuse o0 x1 σ = some (r, σ')) (hM : MS D cy ad A s.heap z σ H locs) (hl : lv_has ls 2 [(0, va_rf (Option.map ad (some o0))), (1, .int x1)]) : W p l e R s m args below meth c H locs 0 0 Q (F0 m 0 ls []) := by
  have hx := hC.1
  have hb := hC.2.1
  unfold fX4_refuse at h
  refine lr_aload_n hx hb dX4_refuse_0 rfl (lv_at hl 0 rfl) ?_
  refine lv_iload_n hx hb dX4_refuse_1 rfl (lv_at hl 1 rfl) ?_
  obtain ⟨m1, e_m1, h⟩ := bn h
  refine pf_X4_26 hC hG hM e_m1 dX4_refuse_2 (fun H locs hM => ?_)
  refine lr_aload_n hx hb dX4_refuse_5 rfl (lv_at hl 0 rfl) ?_
  refine lr_aload_n hx hb dX4_refuse_6 rfl (lv_at hl 0 rfl) ?_
  obtain ⟨t2, e_t2, h⟩ := bn h
  refine gf_X4_29 hC hG hM e_t2 dX4_refuse_7 ?_
  obtain ⟨m3, e_m3, h⟩ := bn h
  refine pf_X4_151 hC hG hM e_m3 dX4_refuse_10 (fun H locs hM => ?_)
  refine lv_iconst (v := 0) hx hb dX4_refuse_13 (by decide) ?_
  cases h
  exact Kr _ _ _ _ dX4_refuse_14 rfl hM
theorem cX4_refuse_ok {l : Launch} {D : va_G} {cy : Nat → ClassId} {ad : Nat → Nat} {A : Nat → Prop} {z : Nat} {r : Int32} {σ' : Mem} {o0 : Nat} {x1 : Int32} {σ : Mem} (h : fX4_refuse o0 x1 σ = some (r, σ')) : CtI l yX4_refuse cX4_refuse 2 (some .boolean) 0 [.ref (ad o0), .int x1] D cy ad A z σ r σ' :=
  enterZ (own := RX4) (by decide) rfl (Nat.le_of_ble_eq_true rfl) rfl (fun p e s m below meth c Q ls hC hG hM Kr hl => wX4_refuse hC hG ⟨Nat.le_refl _, Nat.le_refl _⟩ Kr _ _ _ _ _ _ h hM hl)
/-! X4_wordOf (J)I -/
def fX4_wordOf_b28    (σ : Mem) : Option (Int32 × Mem) :=
  some ((-1), σ)
set_option maxRecDepth 20000 in
theorem wX4_wordOf_b28 {r : Int32} {σ' : Mem} (hC : CallFix p m c cX4_wordOf 3 s args WALL RX4) (hG : GS D cy A s) (hR : 0 ≤ R.frames ∧ 0 ≤ R.locals) (Kr : KrI p l e R s m args below meth c cX4_wordOf Q D cy ad A z r σ')    (σ : Mem) (H : Heap) (locs : List Loc) (ls : Array Slot) (h : fX4_wordOf_b28  σ = some (r, σ')) (hM : MS D cy ad A s.heap z σ H locs) (hl : lv_has ls 3 []) : W p l e R s m args below meth c H locs 0 0 Q (F0 m 28 ls []) := by
  have hx := hC.1
  have hb := hC.2.1
  obtain ⟨tS, hZ, hT⟩ := hG.2.2.1.2
  unfold fX4_wordOf_b28 at h
  refine lv_iconst (v := (-1)) hx hb dX4_wordOf_28 (by decide) ?_
  obtain ⟨rfl, rfl⟩ := Prod.mk.inj (Option.some.inj h)
  exact Kr _ _ _ _ dX4_wordOf_29 hM
def fX4_wordOf_b2  : Nat → Int64 → Int32 → Mem → Option (Int32 × Mem)
  | 0, _, _, _ => none
  | n + 1, x0, x2, σ =>
    if 10 ≤ x2 then fX4_wordOf_b28 σ
      else (aW x2).bind fun t2 =>
        if t2 = x0 then some (x2, σ)
        else bd (x2 + 1) fun t4 =>
          (fX4_wordOf_b2 n) x0 t4 σ
set_option maxRecDepth 20000 in
theorem wX4_wordOf_b2 {r : Int32} {σ' : Mem} (hC : CallFix p m c cX4_wordOf 3 s args WALL RX4) (hG : GS D cy A s) (hR : 0 ≤ R.frames ∧ 0 ≤ R.locals) (Kr : KrI p l e R s m args below meth c cX4_wordOf Q D cy ad A z r σ')  : ∀ (n : Nat) (x0 : Int64) (x2 : Int32)  (σ : Mem) (H : Heap) (locs : List Loc) (ls : Array Slot), fX4_wordOf_b2 n x0 x2 σ = some (r, σ') → MS D cy ad A s.heap z σ H locs → lv_has ls 3 [(0, .long x0), (2, .int x2)] → W p l e R s m args below meth c H locs 0 0 Q (F0 m 2 ls []) := by
  have hx := hC.1
  have hb := hC.2.1
  obtain ⟨tS, hZ, hT⟩ := hG.2.2.1.2
  intro n
  induction n with
  | zero =>
    intro x0 x2 σ H locs ls h
    cases h
  | succ n ih =>
    intro x0 x2 σ H locs ls h hM hl
    rw [fX4_wordOf_b2] at h
    refine lv_iload_n hx hb dX4_wordOf_2 rfl (lv_at hl 1 rfl) ?_
    refine va_gets hx hb hZ hM.2.2.1 hC.2.2.2.1 (hC.2.2.2.2 _ fl_X4_178) (fun _ h => h) dX4_wordOf_3 ?_
    refine va_tlen hx hb hT hM.2.2.1 (v := 10) rfl dX4_wordOf_6 ?_
    refine lv_icmp_ge (tgt := 28) hx hb dX4_wordOf_7 (by decide) (fun c1 => ?_) (fun c1 => ?_)
    · rw [if_pos c1] at h
      exact wX4_wordOf_b28 hC hG hR Kr _ _ _ _ h hM (lv_sub hl [] rfl)
    · rw [if_neg c1] at h
      refine va_gets hx hb hZ hM.2.2.1 hC.2.2.2.1 (hC.2.2.2.2 _ fl_X4_178) (fun _ h => h) dX4_wordOf_10 ?_
      refine lv_iload_n hx hb dX4_wordOf_13 rfl (lv_at hl 1 rfl) ?_
      obtain ⟨t2, e_t2, h⟩ := bn h
      refine va_tl hx hb hT hM.2.2.1 (aW_in e_t2) (v := .long t2) (aW_val e_t2) dX4_wordOf_14 ?_
      refine lv_lload_n hx hb dX4_wordOf_15 rfl (lv_at hl 0 rfl) ?_
      refine lc_ne (tgt := 22) hx hb dX4_wordOf_16 dX4_wordOf_17 (by decide) (fun c3 => ?_) (fun c3 => ?_)
      · rw [if_neg c3] at h
        obtain ⟨t4, e_t4, h⟩ := bd_elim h
        refine lv_iinc (v := t4) (lv' := [(2, .int t4), (0, .long x0)]) hx hb dX4_wordOf_22 hl (k := 1) rfl (by rw [e_t4]; rfl) (by decide) (by first | rfl | simp [va_cat]) (fun ls hl => ?_)
        refine lv_goto (tgt := 2) hx hb dX4_wordOf_25 (by decide) ?_
        exact ih _ _ _ _ _ _ h hM (lv_sub hl [1, 0] rfl)
      · rw [if_pos c3] at h
        refine lv_iload_n hx hb dX4_wordOf_20 rfl (lv_at hl 1 rfl) ?_
        obtain ⟨rfl, rfl⟩ := Prod.mk.inj (Option.some.inj h)
        exact Kr _ _ _ _ dX4_wordOf_21 hM
def fX4_wordOf (x0 : Int64) (σ : Mem) : Option (Int32 × Mem) :=
  fX4_wordOf_b2 FU x0 0 σ
set_option maxRecDepth 20000 in
theorem wX4_wordOf {r : Int32} {σ' : Mem} (hC : CallFix p m c cX4_wordOf 3 s args WALL RX4) (hG : GS D cy A s) (hR : 0 ≤ R.frames ∧ 0 ≤ R.locals) (Kr : KrI p l e R s m args below meth c cX4_wordOf Q D cy ad A z r σ') (x0 : Int64) (σ : Mem) (H : Heap) (locs : List Loc) (ls : Array Slot) (h : fX4_wordOf x0 σ = some (r, σ')) (hM : MS D cy ad A s.heap z σ H locs) (hl : lv_has ls 3 [(0, .long x0)]) : W p l e R s m args below meth c H locs 0 0 Q (F0 m 0 ls []) := by
  have hx := hC.1
  have hb := hC.2.1
  obtain ⟨tS, hZ, hT⟩ := hG.2.2.1.2
  unfold fX4_wordOf at h
  refine lv_iconst (v := 0) hx hb dX4_wordOf_0 (by decide) ?_
  refine lv_istore_n (lv' := [(2, .int 0), (0, .long x0)]) hx hb dX4_wordOf_1 rfl hl (by decide) (by first | rfl | simp [va_cat]) (fun ls hl => ?_)
  exact wX4_wordOf_b2 hC hG hR Kr FU _ _ _ _ _ _ h hM (lv_sub hl [1, 0] rfl)
theorem cX4_wordOf_ok {l : Launch} {D : va_G} {cy : Nat → ClassId} {ad : Nat → Nat} {A : Nat → Prop} {z : Nat} {r : Int32} {σ' : Mem} {x0 : Int64} {σ : Mem} (h : fX4_wordOf x0 σ = some (r, σ')) : CtI l yX4_wordOf cX4_wordOf 3 (some .int) 0 [.long x0] D cy ad A z σ r σ' :=
  enterI (own := RX4) (by decide) rfl (Nat.le_of_ble_eq_true rfl) rfl (fun p e s m below meth c Q ls hC hG hM Kr hl => wX4_wordOf hC hG ⟨Nat.le_refl _, Nat.le_refl _⟩ Kr _ _ _ _ _ h hM hl)
/-! X6_append (I)V -/
def fX6_append_b46    (σ : Mem) : Option (Mem) :=
  some σ
set_option maxRecDepth 20000 in
theorem wX6_append_b46 {σ' : Mem} (hC : CallFix p m c cX6_append 3 s args WALL RX6) (hG : GS D cy A s) (hR : 0 ≤ R.frames ∧ 0 ≤ R.locals) (Kr : KrV p l e R s m args below meth c cX6_append Q D cy ad A z () σ')    (σ : Mem) (H : Heap) (locs : List Loc) (ls : Array Slot) (h : fX6_append_b46  σ = some σ') (hM : MS D cy ad A s.heap z σ H locs) (hl : lv_has ls 3 []) : W p l e R s m args below meth c H locs 0 0 Q (F0 m 46 ls []) := by
  have hx := hC.1
  have hb := hC.2.1
  unfold fX6_append_b46 at h
  cases h
  exact Kr _ _ _ _ dX6_append_46 hM
def fX6_append_b3  : Nat → Nat → Int32 → Int32 → Mem → Option (Mem)
  | 0, _, _, _, _ => none
  | n + 1, o0, x1, x2, σ =>
    if x2 < 0 then fX6_append_b46 σ
      else (fI σ 6 1 (some o0)).bind fun t2 =>
        if 840 ≤ t2 then fX6_append_b46 σ
        else (fR σ 6 0 (some o0)).bind fun t4 =>
          (fI σ 6 1 (some o0)).bind fun t5 =>
          (wI σ 10 t4 t5 (vp_nar .byte ((x1 >>> (x2 &&& 31) : Int32).toInt8.toInt32))).bind fun m6 =>
          (fI m6 6 1 (some o0)).bind fun t7 =>
          (pI m6 6 1 (some o0) (t7 + 1)).bind fun m8 =>
          bd (x2 + (-8)) fun t9 =>
          (fX6_append_b3 n) o0 x1 t9 m8
set_option maxRecDepth 20000 in
theorem wX6_append_b3 {σ' : Mem} (hC : CallFix p m c cX6_append 3 s args WALL RX6) (hG : GS D cy A s) (hR : 0 ≤ R.frames ∧ 0 ≤ R.locals) (Kr : KrV p l e R s m args below meth c cX6_append Q D cy ad A z () σ')  : ∀ (n : Nat) (o0 : Nat) (x1 : Int32) (x2 : Int32)  (σ : Mem) (H : Heap) (locs : List Loc) (ls : Array Slot), fX6_append_b3 n o0 x1 x2 σ = some σ' → MS D cy ad A s.heap z σ H locs → lv_has ls 3 [(0, va_rf (Option.map ad (some o0))), (1, .int x1), (2, .int x2)] → W p l e R s m args below meth c H locs 0 0 Q (F0 m 3 ls []) := by
  have hx := hC.1
  have hb := hC.2.1
  intro n
  induction n with
  | zero =>
    intro o0 x1 x2 σ H locs ls h
    cases h
  | succ n ih =>
    intro o0 x1 x2 σ H locs ls h hM hl
    rw [fX6_append_b3] at h
    refine lv_iload_n hx hb dX6_append_3 rfl (lv_at hl 2 rfl) ?_
    refine lv_if_lt (tgt := 46) hx hb dX6_append_4 (by decide) (fun c1 => ?_) (fun c1 => ?_)
    · rw [if_pos c1] at h
      exact wX6_append_b46 hC hG hR Kr _ _ _ _ h hM (lv_sub hl [] rfl)
    · rw [if_neg c1] at h
      refine lr_aload_n hx hb dX6_append_7 rfl (lv_at hl 0 rfl) ?_
      obtain ⟨t2, e_t2, h⟩ := bn h
      refine gf_X6_15 hC hG hM e_t2 dX6_append_8 ?_
      refine lv_sipush (v := 840) hx hb dX6_append_11 (by decide) ?_
      refine lv_icmp_ge (tgt := 46) hx hb dX6_append_14 (by decide) (fun c3 => ?_) (fun c3 => ?_)
      · rw [if_pos c3] at h
        exact wX6_append_b46 hC hG hR Kr _ _ _ _ h hM (lv_sub hl [] rfl)
      · rw [if_neg c3] at h
        refine lr_aload_n hx hb dX6_append_17 rfl (lv_at hl 0 rfl) ?_
        obtain ⟨t4, e_t4, h⟩ := bn h
        refine gf_X6_9 hC hG hM e_t4 dX6_append_18 ?_
        refine lr_aload_n hx hb dX6_append_21 rfl (lv_at hl 0 rfl) ?_
        obtain ⟨t5, e_t5, h⟩ := bn h
        refine gf_X6_15 hC hG hM e_t5 dX6_append_22 ?_
        refine lv_iload_n hx hb dX6_append_25 rfl (lv_at hl 1 rfl) ?_
        refine lv_iload_n hx hb dX6_append_26 rfl (lv_at hl 2 rfl) ?_
        refine lv_ishr hx hb dX6_append_27 ?_
        refine lv_i2b hx hb dX6_append_28 rfl ?_
        obtain ⟨m6, e_m6, h⟩ := bn h
        refine g_bast hx hb hG hM e_m6 dX6_append_29 (fun H locs hM => ?_)
        refine lr_aload_n hx hb dX6_append_30 rfl (lv_at hl 0 rfl) ?_
        refine lv_dup hx hb dX6_append_31 (va_cat _) ?_
        obtain ⟨t7, e_t7, h⟩ := bn h
        refine gf_X6_15 hC hG hM e_t7 dX6_append_32 ?_
        refine lv_iconst (v := 1) hx hb dX6_append_35 (by decide) ?_
        refine lv_iadd hx hb dX6_append_36 ?_
        obtain ⟨m8, e_m8, h⟩ := bn h
        refine pf_X6_15 hC hG hM e_m8 dX6_append_37 (fun H locs hM => ?_)
        obtain ⟨t9, e_t9, h⟩ := bd_elim h
        refine lv_iinc (v := t9) (lv' := [(2, .int t9), (0, va_rf (Option.map ad (some o0))), (1, .int x1)]) hx hb dX6_append_40 hl (k := 2) rfl (by rw [e_t9]; rfl) (by decide) (by first | rfl | simp [va_cat]) (fun ls hl => ?_)
        refine lv_goto (tgt := 3) hx hb dX6_append_43 (by decide) ?_
        exact ih _ _ _ _ _ _ _ h hM (lv_sub hl [1, 2, 0] rfl)
def fX6_append (o0 : Nat) (x1 : Int32) (σ : Mem) : Option (Mem) :=
  fX6_append_b3 FU o0 x1 24 σ
set_option maxRecDepth 20000 in
theorem wX6_append {σ' : Mem} (hC : CallFix p m c cX6_append 3 s args WALL RX6) (hG : GS D cy A s) (hR : 0 ≤ R.frames ∧ 0 ≤ R.locals) (Kr : KrV p l e R s m args below meth c cX6_append Q D cy ad A z () σ') (o0 : Nat) (x1 : Int32) (σ : Mem) (H : Heap) (locs : List Loc) (ls : Array Slot) (h : fX6_append o0 x1 σ = some σ') (hM : MS D cy ad A s.heap z σ H locs) (hl : lv_has ls 3 [(0, va_rf (Option.map ad (some o0))), (1, .int x1)]) : W p l e R s m args below meth c H locs 0 0 Q (F0 m 0 ls []) := by
  have hx := hC.1
  have hb := hC.2.1
  unfold fX6_append at h
  refine lv_bipush (v := 24) hx hb dX6_append_0 (by decide) ?_
  refine lv_istore_n (lv' := [(2, .int 24), (0, va_rf (Option.map ad (some o0))), (1, .int x1)]) hx hb dX6_append_2 rfl hl (by decide) (by first | rfl | simp [va_cat]) (fun ls hl => ?_)
  exact wX6_append_b3 hC hG hR Kr FU _ _ _ _ _ _ _ h hM (lv_sub hl [1, 2, 0] rfl)
theorem cX6_append_ok {l : Launch} {D : va_G} {cy : Nat → ClassId} {ad : Nat → Nat} {A : Nat → Prop} {z : Nat} {σ' : Mem} {o0 : Nat} {x1 : Int32} {σ : Mem} (h : fX6_append o0 x1 σ = some σ') : CtV l yX6_append cX6_append 3 none 0 [.ref (ad o0), .int x1] D cy ad A z σ () σ' :=
  enterV (own := RX6) (by decide) rfl (Nat.le_of_ble_eq_true rfl) rfl (fun p e s m below meth c Q ls hC hG hM Kr hl => wX6_append hC hG ⟨Nat.le_refl _, Nat.le_refl _⟩ Kr _ _ _ _ _ _ h hM hl)
/-! X6_byteAt (I)I -/
def fX6_byteAt_b33   (y0 : Int32) (σ : Mem) : Option (Int32 × Mem) :=
  some (y0, σ)
set_option maxRecDepth 20000 in
theorem wX6_byteAt_b33 {r : Int32} {σ' : Mem} (hC : CallFix p m c cX6_byteAt 2 s args WALL RX6) (hG : GS D cy A s) (hR : 0 ≤ R.frames ∧ 0 ≤ R.locals) (Kr : KrI p l e R s m args below meth c cX6_byteAt Q D cy ad A z r σ')   (y0 : Int32) (σ : Mem) (H : Heap) (locs : List Loc) (ls : Array Slot) (h : fX6_byteAt_b33 y0 σ = some (r, σ')) (hM : MS D cy ad A s.heap z σ H locs) (hl : lv_has ls 2 []) : W p l e R s m args below meth c H locs 0 0 Q (F0 m 33 ls [.int y0]) := by
  have hx := hC.1
  have hb := hC.2.1
  unfold fX6_byteAt_b33 at h
  obtain ⟨rfl, rfl⟩ := Prod.mk.inj (Option.some.inj h)
  exact Kr _ _ _ _ dX6_byteAt_33 hM
def fX6_byteAt_b19    (σ : Mem) : Option (Int32 × Mem) :=
  fX6_byteAt_b33 (-1) σ
set_option maxRecDepth 20000 in
theorem wX6_byteAt_b19 {r : Int32} {σ' : Mem} (hC : CallFix p m c cX6_byteAt 2 s args WALL RX6) (hG : GS D cy A s) (hR : 0 ≤ R.frames ∧ 0 ≤ R.locals) (Kr : KrI p l e R s m args below meth c cX6_byteAt Q D cy ad A z r σ')    (σ : Mem) (H : Heap) (locs : List Loc) (ls : Array Slot) (h : fX6_byteAt_b19  σ = some (r, σ')) (hM : MS D cy ad A s.heap z σ H locs) (hl : lv_has ls 2 []) : W p l e R s m args below meth c H locs 0 0 Q (F0 m 19 ls []) := by
  have hx := hC.1
  have hb := hC.2.1
  unfold fX6_byteAt_b19 at h
  refine lv_iconst (v := (-1)) hx hb dX6_byteAt_19 (by decide) ?_
  refine lv_goto (tgt := 33) hx hb dX6_byteAt_20 (by decide) ?_
  exact wX6_byteAt_b33 hC hG hR Kr _ _ _ _ _ h hM (lv_sub hl [] rfl)
def fX6_byteAt (o0 : Nat) (x1 : Int32) (σ : Mem) : Option (Int32 × Mem) :=
  if x1 < 0 then fX6_byteAt_b19 σ
    else (fI σ 6 1 (some o0)).bind fun t2 =>
      if t2 ≤ x1 then fX6_byteAt_b19 σ
      else if x1 < 840 then (fR σ 6 0 (some o0)).bind fun t5 =>
          (aI σ 10 t5 x1).bind fun t6 =>
          fX6_byteAt_b33 (t6 &&& 255) σ
        else fX6_byteAt_b19 σ
set_option maxRecDepth 20000 in
theorem wX6_byteAt {r : Int32} {σ' : Mem} (hC : CallFix p m c cX6_byteAt 2 s args WALL RX6) (hG : GS D cy A s) (hR : 0 ≤ R.frames ∧ 0 ≤ R.locals) (Kr : KrI p l e R s m args below meth c cX6_byteAt Q D cy ad A z r σ') (o0 : Nat) (x1 : Int32) (σ : Mem) (H : Heap) (locs : List Loc) (ls : Array Slot) (h : fX6_byteAt o0 x1 σ = some (r, σ')) (hM : MS D cy ad A s.heap z σ H locs) (hl : lv_has ls 2 [(0, va_rf (Option.map ad (some o0))), (1, .int x1)]) : W p l e R s m args below meth c H locs 0 0 Q (F0 m 0 ls []) := by
  have hx := hC.1
  have hb := hC.2.1
  unfold fX6_byteAt at h
  refine lv_iload_n hx hb dX6_byteAt_0 rfl (lv_at hl 1 rfl) ?_
  refine lv_if_lt (tgt := 19) hx hb dX6_byteAt_1 (by decide) (fun c1 => ?_) (fun c1 => ?_)
  · rw [if_pos c1] at h
    exact wX6_byteAt_b19 hC hG hR Kr _ _ _ _ h hM (lv_sub hl [] rfl)
  · rw [if_neg c1] at h
    refine lv_iload_n hx hb dX6_byteAt_4 rfl (lv_at hl 1 rfl) ?_
    refine lr_aload_n hx hb dX6_byteAt_5 rfl (lv_at hl 0 rfl) ?_
    obtain ⟨t2, e_t2, h⟩ := bn h
    refine gf_X6_15 hC hG hM e_t2 dX6_byteAt_6 ?_
    refine lv_icmp_ge (tgt := 19) hx hb dX6_byteAt_9 (by decide) (fun c3 => ?_) (fun c3 => ?_)
    · rw [if_pos c3] at h
      exact wX6_byteAt_b19 hC hG hR Kr _ _ _ _ h hM (lv_sub hl [] rfl)
    · rw [if_neg c3] at h
      refine lv_iload_n hx hb dX6_byteAt_12 rfl (lv_at hl 1 rfl) ?_
      refine lv_sipush (v := 840) hx hb dX6_byteAt_13 (by decide) ?_
      refine lv_icmp_lt (tgt := 23) hx hb dX6_byteAt_16 (by decide) (fun c4 => ?_) (fun c4 => ?_)
      · rw [if_pos c4] at h
        refine lr_aload_n hx hb dX6_byteAt_23 rfl (lv_at hl 0 rfl) ?_
        obtain ⟨t5, e_t5, h⟩ := bn h
        refine gf_X6_9 hC hG hM e_t5 dX6_byteAt_24 ?_
        refine lv_iload_n hx hb dX6_byteAt_27 rfl (lv_at hl 1 rfl) ?_
        obtain ⟨t6, e_t6, h⟩ := bn h
        refine g_bald hx hb hG hM e_t6 dX6_byteAt_28 ?_
        refine lv_sipush (v := 255) hx hb dX6_byteAt_29 (by decide) ?_
        refine lv_iand hx hb dX6_byteAt_32 ?_
        exact wX6_byteAt_b33 hC hG hR Kr _ _ _ _ _ h hM (lv_sub hl [] rfl)
      · rw [if_neg c4] at h
        exact wX6_byteAt_b19 hC hG hR Kr _ _ _ _ h hM (lv_sub hl [] rfl)
theorem cX6_byteAt_ok {l : Launch} {D : va_G} {cy : Nat → ClassId} {ad : Nat → Nat} {A : Nat → Prop} {z : Nat} {r : Int32} {σ' : Mem} {o0 : Nat} {x1 : Int32} {σ : Mem} (h : fX6_byteAt o0 x1 σ = some (r, σ')) : CtI l yX6_byteAt cX6_byteAt 2 (some .int) 0 [.ref (ad o0), .int x1] D cy ad A z σ r σ' :=
  enterI (own := RX6) (by decide) rfl (Nat.le_of_ble_eq_true rfl) rfl (fun p e s m below meth c Q ls hC hG hM Kr hl => wX6_byteAt hC hG ⟨Nat.le_refl _, Nat.le_refl _⟩ Kr _ _ _ _ _ _ h hM hl)
/-! X8_change (I)Z -/
def fX8_change_b10    (σ : Mem) : Option (Int32 × Mem) :=
  some (0, σ)
set_option maxRecDepth 20000 in
theorem wX8_change_b10 {r : Int32} {σ' : Mem} (hC : CallFix p m c cX8_change 2 s args WALL RX8) (hG : GS D cy A s) (hR : 0 ≤ R.frames ∧ 0 ≤ R.locals) (Kr : KrZ p l e R s m args below meth c cX8_change Q D cy ad A z r σ')    (σ : Mem) (H : Heap) (locs : List Loc) (ls : Array Slot) (h : fX8_change_b10  σ = some (r, σ')) (hM : MS D cy ad A s.heap z σ H locs) (hl : lv_has ls 2 []) : W p l e R s m args below meth c H locs 0 0 Q (F0 m 10 ls []) := by
  have hx := hC.1
  have hb := hC.2.1
  unfold fX8_change_b10 at h
  refine lv_iconst (v := 0) hx hb dX8_change_10 (by decide) ?_
  cases h
  exact Kr _ _ _ _ dX8_change_11 rfl hM
def fX8_change (o0 : Nat) (x1 : Int32) (σ : Mem) : Option (Int32 × Mem) :=
  if x1 < 0 then fX8_change_b10 σ
    else if x1 ≤ 100000 then (pI σ 8 9 (some o0) x1).bind fun m3 =>
        some (1, m3)
      else fX8_change_b10 σ
set_option maxRecDepth 20000 in
theorem wX8_change {r : Int32} {σ' : Mem} (hC : CallFix p m c cX8_change 2 s args WALL RX8) (hG : GS D cy A s) (hR : 0 ≤ R.frames ∧ 0 ≤ R.locals) (Kr : KrZ p l e R s m args below meth c cX8_change Q D cy ad A z r σ') (o0 : Nat) (x1 : Int32) (σ : Mem) (H : Heap) (locs : List Loc) (ls : Array Slot) (h : fX8_change o0 x1 σ = some (r, σ')) (hM : MS D cy ad A s.heap z σ H locs) (hl : lv_has ls 2 [(0, va_rf (Option.map ad (some o0))), (1, .int x1)]) : W p l e R s m args below meth c H locs 0 0 Q (F0 m 0 ls []) := by
  have hx := hC.1
  have hb := hC.2.1
  unfold fX8_change at h
  refine lv_iload_n hx hb dX8_change_0 rfl (lv_at hl 1 rfl) ?_
  refine lv_if_lt (tgt := 10) hx hb dX8_change_1 (by decide) (fun c1 => ?_) (fun c1 => ?_)
  · rw [if_pos c1] at h
    exact wX8_change_b10 hC hG hR Kr _ _ _ _ h hM (lv_sub hl [] rfl)
  · rw [if_neg c1] at h
    refine lv_iload_n hx hb dX8_change_4 rfl (lv_at hl 1 rfl) ?_
    refine lv_ldc (v := 100000) hx hb hC.2.2.2.1 (hC.2.2.2.2 _ wk_X8_138) dX8_change_5 ?_
    refine lv_icmp_le (tgt := 12) hx hb dX8_change_7 (by decide) (fun c2 => ?_) (fun c2 => ?_)
    · rw [if_pos c2] at h
      refine lr_aload_n hx hb dX8_change_12 rfl (lv_at hl 0 rfl) ?_
      refine lv_iload_n hx hb dX8_change_13 rfl (lv_at hl 1 rfl) ?_
      obtain ⟨m3, e_m3, h⟩ := bn h
      refine pf_X8_139 hC hG hM e_m3 dX8_change_14 (fun H locs hM => ?_)
      refine lv_iconst (v := 1) hx hb dX8_change_17 (by decide) ?_
      cases h
      exact Kr _ _ _ _ dX8_change_18 rfl hM
    · rw [if_neg c2] at h
      exact wX8_change_b10 hC hG hR Kr _ _ _ _ h hM (lv_sub hl [] rfl)
theorem cX8_change_ok {l : Launch} {D : va_G} {cy : Nat → ClassId} {ad : Nat → Nat} {A : Nat → Prop} {z : Nat} {r : Int32} {σ' : Mem} {o0 : Nat} {x1 : Int32} {σ : Mem} (h : fX8_change o0 x1 σ = some (r, σ')) : CtI l yX8_change cX8_change 2 (some .boolean) 0 [.ref (ad o0), .int x1] D cy ad A z σ r σ' :=
  enterZ (own := RX8) (by decide) rfl (Nat.le_of_ble_eq_true rfl) rfl (fun p e s m below meth c Q ls hC hG hM Kr hl => wX8_change hC hG ⟨Nat.le_refl _, Nat.le_refl _⟩ Kr _ _ _ _ _ _ h hM hl)
/-! X8_count (I)I -/
def fX8_count (o0 : Nat) (x1 : Int32) (σ : Mem) : Option (Int32 × Mem) :=
  (if x1 = 0 then (fR σ 8 8 (some o0)).bind fun t2 =>
      (fI σ 3 1 t2).bind fun t3 =>
      some (t3, σ) else if x1 = 1 then (fI σ 8 9 (some o0)).bind fun t5 =>
        some (t5, σ) else if x1 = 2 then (fR σ 8 0 (some o0)).bind fun t7 =>
          (fI σ 6 1 t7).bind fun t8 =>
          some (t8, σ) else if x1 = 3 then (fI σ 8 11 (some o0)).bind fun t10 =>
            some (t10, σ) else some ((-1), σ))
set_option maxRecDepth 20000 in
theorem wX8_count {r : Int32} {σ' : Mem} (hC : CallFix p m c cX8_count 2 s args WALL RX8) (hG : GS D cy A s) (hR : 0 ≤ R.frames ∧ 0 ≤ R.locals) (Kr : KrI p l e R s m args below meth c cX8_count Q D cy ad A z r σ') (o0 : Nat) (x1 : Int32) (σ : Mem) (H : Heap) (locs : List Loc) (ls : Array Slot) (h : fX8_count o0 x1 σ = some (r, σ')) (hM : MS D cy ad A s.heap z σ H locs) (hl : lv_has ls 2 [(0, va_rf (Option.map ad (some o0))), (1, .int x1)]) : W p l e R s m args below meth c H locs 0 0 Q (F0 m 0 ls []) := by
  have hx := hC.1
  have hb := hC.2.1
  unfold fX8_count at h
  refine lv_iload_n hx hb dX8_count_0 rfl (lv_at hl 1 rfl) ?_
  by_cases c1 : x1 = 0
  · rw [if_pos c1] at h
    refine lv_tableIn (tgt := 32) hx hb dX8_count_1 (by rw [c1]; decide) (by rw [c1]; decide) (by rw [c1]; rfl) (by decide) ?_
    refine lr_aload_n hx hb dX8_count_32 rfl (lv_at hl 0 rfl) ?_
    obtain ⟨t2, e_t2, h⟩ := bn h
    refine gf_X8_59 hC hG hM e_t2 dX8_count_33 ?_
    obtain ⟨t3, e_t3, h⟩ := bn h
    refine gf_X8_88 hC hG hM e_t3 dX8_count_36 ?_
    obtain ⟨rfl, rfl⟩ := Prod.mk.inj (Option.some.inj h)
    exact Kr _ _ _ _ dX8_count_39 hM
  · rw [if_neg c1] at h
    by_cases c4 : x1 = 1
    · rw [if_pos c4] at h
      refine lv_tableIn (tgt := 40) hx hb dX8_count_1 (by rw [c4]; decide) (by rw [c4]; decide) (by rw [c4]; rfl) (by decide) ?_
      refine lr_aload_n hx hb dX8_count_40 rfl (lv_at hl 0 rfl) ?_
      obtain ⟨t5, e_t5, h⟩ := bn h
      refine gf_X8_139 hC hG hM e_t5 dX8_count_41 ?_
      obtain ⟨rfl, rfl⟩ := Prod.mk.inj (Option.some.inj h)
      exact Kr _ _ _ _ dX8_count_44 hM
    · rw [if_neg c4] at h
      by_cases c6 : x1 = 2
      · rw [if_pos c6] at h
        refine lv_tableIn (tgt := 45) hx hb dX8_count_1 (by rw [c6]; decide) (by rw [c6]; decide) (by rw [c6]; rfl) (by decide) ?_
        refine lr_aload_n hx hb dX8_count_45 rfl (lv_at hl 0 rfl) ?_
        obtain ⟨t7, e_t7, h⟩ := bn h
        refine gf_X8_10 hC hG hM e_t7 dX8_count_46 ?_
        obtain ⟨t8, e_t8, h⟩ := bn h
        refine gf_X8_66 hC hG hM e_t8 dX8_count_49 ?_
        obtain ⟨rfl, rfl⟩ := Prod.mk.inj (Option.some.inj h)
        exact Kr _ _ _ _ dX8_count_52 hM
      · rw [if_neg c6] at h
        by_cases c9 : x1 = 3
        · rw [if_pos c9] at h
          refine lv_tableIn (tgt := 53) hx hb dX8_count_1 (by rw [c9]; decide) (by rw [c9]; decide) (by rw [c9]; rfl) (by decide) ?_
          refine lr_aload_n hx hb dX8_count_53 rfl (lv_at hl 0 rfl) ?_
          obtain ⟨t10, e_t10, h⟩ := bn h
          refine gf_X8_128 hC hG hM e_t10 dX8_count_54 ?_
          obtain ⟨rfl, rfl⟩ := Prod.mk.inj (Option.some.inj h)
          exact Kr _ _ _ _ dX8_count_57 hM
        · rw [if_neg c9] at h
          refine lv_tableOut (tgt := 58) hx hb dX8_count_1 (by have n_c1 := lv_neT c1 (show (0 : Int32).toInt = 0 from rfl); have n_c4 := lv_neT c4 (show (1 : Int32).toInt = 1 from rfl); have n_c6 := lv_neT c6 (show (2 : Int32).toInt = 2 from rfl); have n_c9 := lv_neT c9 (show (3 : Int32).toInt = 3 from rfl); omega) (by decide) ?_
          refine lv_iconst (v := (-1)) hx hb dX8_count_58 (by decide) ?_
          obtain ⟨rfl, rfl⟩ := Prod.mk.inj (Option.some.inj h)
          exact Kr _ _ _ _ dX8_count_59 hM
theorem cX8_count_ok {l : Launch} {D : va_G} {cy : Nat → ClassId} {ad : Nat → Nat} {A : Nat → Prop} {z : Nat} {r : Int32} {σ' : Mem} {o0 : Nat} {x1 : Int32} {σ : Mem} (h : fX8_count o0 x1 σ = some (r, σ')) : CtI l yX8_count cX8_count 2 (some .int) 0 [.ref (ad o0), .int x1] D cy ad A z σ r σ' :=
  enterI (own := RX8) (by decide) rfl (Nat.le_of_ble_eq_true rfl) rfl (fun p e s m below meth c Q ls hC hG hM Kr hl => wX8_count hC hG ⟨Nat.le_refl _, Nat.le_refl _⟩ Kr _ _ _ _ _ _ h hM hl)
/-! X8_end (I)Z -/
def fX8_end_b15    (σ : Mem) : Option (Int32 × Mem) :=
  some (0, σ)
set_option maxRecDepth 20000 in
theorem wX8_end_b15 {r : Int32} {σ' : Mem} (hC : CallFix p m c cX8_end 2 s args WALL RX8) (hG : GS D cy A s) (hR : 0 ≤ R.frames ∧ 0 ≤ R.locals) (Kr : KrZ p l e R s m args below meth c cX8_end Q D cy ad A z r σ')    (σ : Mem) (H : Heap) (locs : List Loc) (ls : Array Slot) (h : fX8_end_b15  σ = some (r, σ')) (hM : MS D cy ad A s.heap z σ H locs) (hl : lv_has ls 2 []) : W p l e R s m args below meth c H locs 0 0 Q (F0 m 15 ls []) := by
  have hx := hC.1
  have hb := hC.2.1
  unfold fX8_end_b15 at h
  refine lv_iconst (v := 0) hx hb dX8_end_15 (by decide) ?_
  cases h
  exact Kr _ _ _ _ dX8_end_16 rfl hM
def fX8_end (o0 : Nat) (x1 : Int32) (σ : Mem) : Option (Int32 × Mem) :=
  if x1 < 0 then fX8_end_b15 σ
    else (fR σ 8 0 (some o0)).bind fun t2 =>
      (fI σ 6 1 t2).bind fun t3 =>
      if x1 ≤ t3 then (fR σ 8 0 (some o0)).bind fun t5 =>
        (pI σ 6 1 t5 x1).bind fun m6 =>
        some (1, m6)
      else fX8_end_b15 σ
set_option maxRecDepth 20000 in
theorem wX8_end {r : Int32} {σ' : Mem} (hC : CallFix p m c cX8_end 2 s args WALL RX8) (hG : GS D cy A s) (hR : 0 ≤ R.frames ∧ 0 ≤ R.locals) (Kr : KrZ p l e R s m args below meth c cX8_end Q D cy ad A z r σ') (o0 : Nat) (x1 : Int32) (σ : Mem) (H : Heap) (locs : List Loc) (ls : Array Slot) (h : fX8_end o0 x1 σ = some (r, σ')) (hM : MS D cy ad A s.heap z σ H locs) (hl : lv_has ls 2 [(0, va_rf (Option.map ad (some o0))), (1, .int x1)]) : W p l e R s m args below meth c H locs 0 0 Q (F0 m 0 ls []) := by
  have hx := hC.1
  have hb := hC.2.1
  unfold fX8_end at h
  refine lv_iload_n hx hb dX8_end_0 rfl (lv_at hl 1 rfl) ?_
  refine lv_if_lt (tgt := 15) hx hb dX8_end_1 (by decide) (fun c1 => ?_) (fun c1 => ?_)
  · rw [if_pos c1] at h
    exact wX8_end_b15 hC hG hR Kr _ _ _ _ h hM (lv_sub hl [] rfl)
  · rw [if_neg c1] at h
    refine lv_iload_n hx hb dX8_end_4 rfl (lv_at hl 1 rfl) ?_
    refine lr_aload_n hx hb dX8_end_5 rfl (lv_at hl 0 rfl) ?_
    obtain ⟨t2, e_t2, h⟩ := bn h
    refine gf_X8_10 hC hG hM e_t2 dX8_end_6 ?_
    obtain ⟨t3, e_t3, h⟩ := bn h
    refine gf_X8_66 hC hG hM e_t3 dX8_end_9 ?_
    refine lv_icmp_le (tgt := 17) hx hb dX8_end_12 (by decide) (fun c4 => ?_) (fun c4 => ?_)
    · rw [if_pos c4] at h
      refine lr_aload_n hx hb dX8_end_17 rfl (lv_at hl 0 rfl) ?_
      obtain ⟨t5, e_t5, h⟩ := bn h
      refine gf_X8_10 hC hG hM e_t5 dX8_end_18 ?_
      refine lv_iload_n hx hb dX8_end_21 rfl (lv_at hl 1 rfl) ?_
      obtain ⟨m6, e_m6, h⟩ := bn h
      refine pf_X8_66 hC hG hM e_m6 dX8_end_22 (fun H locs hM => ?_)
      refine lv_iconst (v := 1) hx hb dX8_end_25 (by decide) ?_
      cases h
      exact Kr _ _ _ _ dX8_end_26 rfl hM
    · rw [if_neg c4] at h
      exact wX8_end_b15 hC hG hR Kr _ _ _ _ h hM (lv_sub hl [] rfl)
theorem cX8_end_ok {l : Launch} {D : va_G} {cy : Nat → ClassId} {ad : Nat → Nat} {A : Nat → Prop} {z : Nat} {r : Int32} {σ' : Mem} {o0 : Nat} {x1 : Int32} {σ : Mem} (h : fX8_end o0 x1 σ = some (r, σ')) : CtI l yX8_end cX8_end 2 (some .boolean) 0 [.ref (ad o0), .int x1] D cy ad A z σ r σ' :=
  enterZ (own := RX8) (by decide) rfl (Nat.le_of_ble_eq_true rfl) rfl (fun p e s m below meth c Q ls hC hG hM Kr hl => wX8_end hC hG ⟨Nat.le_refl _, Nat.le_refl _⟩ Kr _ _ _ _ _ _ h hM hl)
/-! X8_fault ()I -/
def fX8_fault (o0 : Nat) (σ : Mem) : Option (Int32 × Mem) :=
  (fR σ 8 1 (some o0)).bind fun t1 =>
    (fI σ 4 4 t1).bind fun t2 =>
    some (t2, σ)
set_option maxRecDepth 20000 in
theorem wX8_fault {r : Int32} {σ' : Mem} (hC : CallFix p m c cX8_fault 1 s args WALL RX8) (hG : GS D cy A s) (hR : 0 ≤ R.frames ∧ 0 ≤ R.locals) (Kr : KrI p l e R s m args below meth c cX8_fault Q D cy ad A z r σ') (o0 : Nat) (σ : Mem) (H : Heap) (locs : List Loc) (ls : Array Slot) (h : fX8_fault o0 σ = some (r, σ')) (hM : MS D cy ad A s.heap z σ H locs) (hl : lv_has ls 1 [(0, va_rf (Option.map ad (some o0)))]) : W p l e R s m args below meth c H locs 0 0 Q (F0 m 0 ls []) := by
  have hx := hC.1
  have hb := hC.2.1
  unfold fX8_fault at h
  refine lr_aload_n hx hb dX8_fault_0 rfl (lv_at hl 0 rfl) ?_
  obtain ⟨t1, e_t1, h⟩ := bn h
  refine gf_X8_21 hC hG hM e_t1 dX8_fault_1 ?_
  obtain ⟨t2, e_t2, h⟩ := bn h
  refine gf_X8_91 hC hG hM e_t2 dX8_fault_4 ?_
  obtain ⟨rfl, rfl⟩ := Prod.mk.inj (Option.some.inj h)
  exact Kr _ _ _ _ dX8_fault_7 hM
theorem cX8_fault_ok {l : Launch} {D : va_G} {cy : Nat → ClassId} {ad : Nat → Nat} {A : Nat → Prop} {z : Nat} {r : Int32} {σ' : Mem} {o0 : Nat} {σ : Mem} (h : fX8_fault o0 σ = some (r, σ')) : CtI l yX8_fault cX8_fault 1 (some .int) 0 [.ref (ad o0)] D cy ad A z σ r σ' :=
  enterI (own := RX8) (by decide) rfl (Nat.le_of_ble_eq_true rfl) rfl (fun p e s m below meth c Q ls hC hG hM Kr hl => wX8_fault hC hG ⟨Nat.le_refl _, Nat.le_refl _⟩ Kr _ _ _ _ _ h hM hl)
/-! X8_forgetRow ()V -/
def fX8_forgetRow_b21    (σ : Mem) : Option (Mem) :=
  some σ
set_option maxRecDepth 20000 in
theorem wX8_forgetRow_b21 {σ' : Mem} (hC : CallFix p m c cX8_forgetRow 2 s args WALL RX8) (hG : GS D cy A s) (hR : 0 ≤ R.frames ∧ 0 ≤ R.locals) (Kr : KrV p l e R s m args below meth c cX8_forgetRow Q D cy ad A z () σ')    (σ : Mem) (H : Heap) (locs : List Loc) (ls : Array Slot) (h : fX8_forgetRow_b21  σ = some σ') (hM : MS D cy ad A s.heap z σ H locs) (hl : lv_has ls 2 []) : W p l e R s m args below meth c H locs 0 0 Q (F0 m 21 ls []) := by
  have hx := hC.1
  have hb := hC.2.1
  unfold fX8_forgetRow_b21 at h
  cases h
  exact Kr _ _ _ _ dX8_forgetRow_21 hM
def fX8_forgetRow_b2  : Nat → Nat → Int32 → Mem → Option (Mem)
  | 0, _, _, _ => none
  | n + 1, o0, x1, σ =>
    if 24 ≤ x1 then fX8_forgetRow_b21 σ
      else (fR σ 8 7 (some o0)).bind fun t2 =>
        (wI σ 11 t2 x1 (-1)).bind fun m3 =>
        bd (x1 + 1) fun t4 =>
        (fX8_forgetRow_b2 n) o0 t4 m3
set_option maxRecDepth 20000 in
theorem wX8_forgetRow_b2 {σ' : Mem} (hC : CallFix p m c cX8_forgetRow 2 s args WALL RX8) (hG : GS D cy A s) (hR : 0 ≤ R.frames ∧ 0 ≤ R.locals) (Kr : KrV p l e R s m args below meth c cX8_forgetRow Q D cy ad A z () σ')  : ∀ (n : Nat) (o0 : Nat) (x1 : Int32)  (σ : Mem) (H : Heap) (locs : List Loc) (ls : Array Slot), fX8_forgetRow_b2 n o0 x1 σ = some σ' → MS D cy ad A s.heap z σ H locs → lv_has ls 2 [(0, va_rf (Option.map ad (some o0))), (1, .int x1)] → W p l e R s m args below meth c H locs 0 0 Q (F0 m 2 ls []) := by
  have hx := hC.1
  have hb := hC.2.1
  intro n
  induction n with
  | zero =>
    intro o0 x1 σ H locs ls h
    cases h
  | succ n ih =>
    intro o0 x1 σ H locs ls h hM hl
    rw [fX8_forgetRow_b2] at h
    refine lv_iload_n hx hb dX8_forgetRow_2 rfl (lv_at hl 1 rfl) ?_
    refine lv_bipush (v := 24) hx hb dX8_forgetRow_3 (by decide) ?_
    refine lv_icmp_ge (tgt := 21) hx hb dX8_forgetRow_5 (by decide) (fun c1 => ?_) (fun c1 => ?_)
    · rw [if_pos c1] at h
      exact wX8_forgetRow_b21 hC hG hR Kr _ _ _ _ h hM (lv_sub hl [] rfl)
    · rw [if_neg c1] at h
      refine lr_aload_n hx hb dX8_forgetRow_8 rfl (lv_at hl 0 rfl) ?_
      obtain ⟨t2, e_t2, h⟩ := bn h
      refine gf_X8_53 hC hG hM e_t2 dX8_forgetRow_9 ?_
      refine lv_iload_n hx hb dX8_forgetRow_12 rfl (lv_at hl 1 rfl) ?_
      refine lv_iconst (v := (-1)) hx hb dX8_forgetRow_13 (by decide) ?_
      obtain ⟨m3, e_m3, h⟩ := bn h
      refine g_iast hx hb hG hM e_m3 dX8_forgetRow_14 (fun H locs hM => ?_)
      obtain ⟨t4, e_t4, h⟩ := bd_elim h
      refine lv_iinc (v := t4) (lv' := [(1, .int t4), (0, va_rf (Option.map ad (some o0)))]) hx hb dX8_forgetRow_15 hl (k := 1) rfl (by rw [e_t4]; rfl) (by decide) (by first | rfl | simp [va_cat]) (fun ls hl => ?_)
      refine lv_goto (tgt := 2) hx hb dX8_forgetRow_18 (by decide) ?_
      exact ih _ _ _ _ _ _ h hM (lv_sub hl [1, 0] rfl)
def fX8_forgetRow (o0 : Nat) (σ : Mem) : Option (Mem) :=
  fX8_forgetRow_b2 FU o0 0 σ
set_option maxRecDepth 20000 in
theorem wX8_forgetRow {σ' : Mem} (hC : CallFix p m c cX8_forgetRow 2 s args WALL RX8) (hG : GS D cy A s) (hR : 0 ≤ R.frames ∧ 0 ≤ R.locals) (Kr : KrV p l e R s m args below meth c cX8_forgetRow Q D cy ad A z () σ') (o0 : Nat) (σ : Mem) (H : Heap) (locs : List Loc) (ls : Array Slot) (h : fX8_forgetRow o0 σ = some σ') (hM : MS D cy ad A s.heap z σ H locs) (hl : lv_has ls 2 [(0, va_rf (Option.map ad (some o0)))]) : W p l e R s m args below meth c H locs 0 0 Q (F0 m 0 ls []) := by
  have hx := hC.1
  have hb := hC.2.1
  unfold fX8_forgetRow at h
  refine lv_iconst (v := 0) hx hb dX8_forgetRow_0 (by decide) ?_
  refine lv_istore_n (lv' := [(1, .int 0), (0, va_rf (Option.map ad (some o0)))]) hx hb dX8_forgetRow_1 rfl hl (by decide) (by first | rfl | simp [va_cat]) (fun ls hl => ?_)
  exact wX8_forgetRow_b2 hC hG hR Kr FU _ _ _ _ _ _ h hM (lv_sub hl [1, 0] rfl)
theorem cX8_forgetRow_ok {l : Launch} {D : va_G} {cy : Nat → ClassId} {ad : Nat → Nat} {A : Nat → Prop} {z : Nat} {σ' : Mem} {o0 : Nat} {σ : Mem} (h : fX8_forgetRow o0 σ = some σ') : CtV l yX8_forgetRow cX8_forgetRow 2 none 0 [.ref (ad o0)] D cy ad A z σ () σ' :=
  enterV (own := RX8) (by decide) rfl (Nat.le_of_ble_eq_true rfl) rfl (fun p e s m below meth c Q ls hC hG hM Kr hl => wX8_forgetRow hC hG ⟨Nat.le_refl _, Nat.le_refl _⟩ Kr _ _ _ _ _ h hM hl)
/-! X8_isCheaper (JJ)Z -/
def fX8_isCheaper_b27   (y0 : Int32) (σ : Mem) : Option (Int32 × Mem) :=
  if y0 = 0 ∨ y0 = 1 then some (y0, σ) else none
set_option maxRecDepth 20000 in
theorem wX8_isCheaper_b27 {r : Int32} {σ' : Mem} (hC : CallFix p m c cX8_isCheaper 4 s args WALL RX8) (hG : GS D cy A s) (hR : 0 ≤ R.frames ∧ 0 ≤ R.locals) (Kr : KrZ p l e R s m args below meth c cX8_isCheaper Q D cy ad A z r σ')   (y0 : Int32) (σ : Mem) (H : Heap) (locs : List Loc) (ls : Array Slot) (h : fX8_isCheaper_b27 y0 σ = some (r, σ')) (hM : MS D cy ad A s.heap z σ H locs) (hl : lv_has ls 4 []) : W p l e R s m args below meth c H locs 0 0 Q (F0 m 27 ls [.int y0]) := by
  have hx := hC.1
  have hb := hC.2.1
  unfold fX8_isCheaper_b27 at h
  by_cases c1 : y0 = 0 ∨ y0 = 1
  · rw [if_pos c1] at h
    cases h
    exact Kr _ _ _ _ dX8_isCheaper_27 (nar01 c1) hM
  · rw [if_neg c1] at h
    cases h
def fX8_isCheaper_b26    (σ : Mem) : Option (Int32 × Mem) :=
  fX8_isCheaper_b27 0 σ
set_option maxRecDepth 20000 in
theorem wX8_isCheaper_b26 {r : Int32} {σ' : Mem} (hC : CallFix p m c cX8_isCheaper 4 s args WALL RX8) (hG : GS D cy A s) (hR : 0 ≤ R.frames ∧ 0 ≤ R.locals) (Kr : KrZ p l e R s m args below meth c cX8_isCheaper Q D cy ad A z r σ')    (σ : Mem) (H : Heap) (locs : List Loc) (ls : Array Slot) (h : fX8_isCheaper_b26  σ = some (r, σ')) (hM : MS D cy ad A s.heap z σ H locs) (hl : lv_has ls 4 []) : W p l e R s m args below meth c H locs 0 0 Q (F0 m 26 ls []) := by
  have hx := hC.1
  have hb := hC.2.1
  unfold fX8_isCheaper_b26 at h
  refine lv_iconst (v := 0) hx hb dX8_isCheaper_26 (by decide) ?_
  exact wX8_isCheaper_b27 hC hG hR Kr _ _ _ _ _ h hM (lv_sub hl [] rfl)
def fX8_isCheaper_b22    (σ : Mem) : Option (Int32 × Mem) :=
  fX8_isCheaper_b27 1 σ
set_option maxRecDepth 20000 in
theorem wX8_isCheaper_b22 {r : Int32} {σ' : Mem} (hC : CallFix p m c cX8_isCheaper 4 s args WALL RX8) (hG : GS D cy A s) (hR : 0 ≤ R.frames ∧ 0 ≤ R.locals) (Kr : KrZ p l e R s m args below meth c cX8_isCheaper Q D cy ad A z r σ')    (σ : Mem) (H : Heap) (locs : List Loc) (ls : Array Slot) (h : fX8_isCheaper_b22  σ = some (r, σ')) (hM : MS D cy ad A s.heap z σ H locs) (hl : lv_has ls 4 []) : W p l e R s m args below meth c H locs 0 0 Q (F0 m 22 ls []) := by
  have hx := hC.1
  have hb := hC.2.1
  unfold fX8_isCheaper_b22 at h
  refine lv_iconst (v := 1) hx hb dX8_isCheaper_22 (by decide) ?_
  refine lv_goto (tgt := 27) hx hb dX8_isCheaper_23 (by decide) ?_
  exact wX8_isCheaper_b27 hC hG hR Kr _ _ _ _ _ h hM (lv_sub hl [] rfl)
def fX8_isCheaper (x0 : Int64) (x2 : Int64) (σ : Mem) : Option (Int32 × Mem) :=
  if x0 = (-1) then fX8_isCheaper_b26 σ
    else if x2 = (-1) then fX8_isCheaper_b22 σ
      else if x2 ≤ x0 then fX8_isCheaper_b26 σ
        else fX8_isCheaper_b22 σ
set_option maxRecDepth 20000 in
theorem wX8_isCheaper {r : Int32} {σ' : Mem} (hC : CallFix p m c cX8_isCheaper 4 s args WALL RX8) (hG : GS D cy A s) (hR : 0 ≤ R.frames ∧ 0 ≤ R.locals) (Kr : KrZ p l e R s m args below meth c cX8_isCheaper Q D cy ad A z r σ') (x0 : Int64) (x2 : Int64) (σ : Mem) (H : Heap) (locs : List Loc) (ls : Array Slot) (h : fX8_isCheaper x0 x2 σ = some (r, σ')) (hM : MS D cy ad A s.heap z σ H locs) (hl : lv_has ls 4 [(0, .long x0), (2, .long x2)]) : W p l e R s m args below meth c H locs 0 0 Q (F0 m 0 ls []) := by
  have hx := hC.1
  have hb := hC.2.1
  unfold fX8_isCheaper at h
  refine lv_lload_n hx hb dX8_isCheaper_0 rfl (lv_at hl 0 rfl) ?_
  refine lv_ldc2 (v := (-1)) hx hb hC.2.2.2.1 (hC.2.2.2.2 _ wk_X8_146) dX8_isCheaper_1 ?_
  refine lc_eq (tgt := 26) hx hb dX8_isCheaper_4 dX8_isCheaper_5 (by decide) (fun c1 => ?_) (fun c1 => ?_)
  · rw [if_pos c1] at h
    exact wX8_isCheaper_b26 hC hG hR Kr _ _ _ _ h hM (lv_sub hl [] rfl)
  · rw [if_neg c1] at h
    refine lv_lload_n hx hb dX8_isCheaper_8 rfl (lv_at hl 1 rfl) ?_
    refine lv_ldc2 (v := (-1)) hx hb hC.2.2.2.1 (hC.2.2.2.2 _ wk_X8_146) dX8_isCheaper_9 ?_
    refine lc_eq (tgt := 22) hx hb dX8_isCheaper_12 dX8_isCheaper_13 (by decide) (fun c2 => ?_) (fun c2 => ?_)
    · rw [if_pos c2] at h
      exact wX8_isCheaper_b22 hC hG hR Kr _ _ _ _ h hM (lv_sub hl [] rfl)
    · rw [if_neg c2] at h
      refine lv_lload_n hx hb dX8_isCheaper_16 rfl (lv_at hl 0 rfl) ?_
      refine lv_lload_n hx hb dX8_isCheaper_17 rfl (lv_at hl 1 rfl) ?_
      refine lc_ge (tgt := 26) hx hb dX8_isCheaper_18 dX8_isCheaper_19 (by decide) (fun c3 => ?_) (fun c3 => ?_)
      · rw [if_pos c3] at h
        exact wX8_isCheaper_b26 hC hG hR Kr _ _ _ _ h hM (lv_sub hl [] rfl)
      · rw [if_neg c3] at h
        exact wX8_isCheaper_b22 hC hG hR Kr _ _ _ _ h hM (lv_sub hl [] rfl)
theorem cX8_isCheaper_ok {l : Launch} {D : va_G} {cy : Nat → ClassId} {ad : Nat → Nat} {A : Nat → Prop} {z : Nat} {r : Int32} {σ' : Mem} {x0 : Int64} {x2 : Int64} {σ : Mem} (h : fX8_isCheaper x0 x2 σ = some (r, σ')) : CtI l yX8_isCheaper cX8_isCheaper 4 (some .boolean) 0 [.long x0, .long x2] D cy ad A z σ r σ' :=
  enterZ (own := RX8) (by decide) rfl (Nat.le_of_ble_eq_true rfl) rfl (fun p e s m below meth c Q ls hC hG hM Kr hl => wX8_isCheaper hC hG ⟨Nat.le_refl _, Nat.le_refl _⟩ Kr _ _ _ _ _ _ h hM hl)
/-! X8_isWithin (III)Z -/
def fX8_isWithin_b15   (y0 : Int32) (σ : Mem) : Option (Int32 × Mem) :=
  if y0 = 0 ∨ y0 = 1 then some (y0, σ) else none
set_option maxRecDepth 20000 in
theorem wX8_isWithin_b15 {r : Int32} {σ' : Mem} (hC : CallFix p m c cX8_isWithin 3 s args WALL RX8) (hG : GS D cy A s) (hR : 0 ≤ R.frames ∧ 0 ≤ R.locals) (Kr : KrZ p l e R s m args below meth c cX8_isWithin Q D cy ad A z r σ')   (y0 : Int32) (σ : Mem) (H : Heap) (locs : List Loc) (ls : Array Slot) (h : fX8_isWithin_b15 y0 σ = some (r, σ')) (hM : MS D cy ad A s.heap z σ H locs) (hl : lv_has ls 3 []) : W p l e R s m args below meth c H locs 0 0 Q (F0 m 15 ls [.int y0]) := by
  have hx := hC.1
  have hb := hC.2.1
  unfold fX8_isWithin_b15 at h
  by_cases c1 : y0 = 0 ∨ y0 = 1
  · rw [if_pos c1] at h
    cases h
    exact Kr _ _ _ _ dX8_isWithin_15 (nar01 c1) hM
  · rw [if_neg c1] at h
    cases h
def fX8_isWithin_b14    (σ : Mem) : Option (Int32 × Mem) :=
  fX8_isWithin_b15 0 σ
set_option maxRecDepth 20000 in
theorem wX8_isWithin_b14 {r : Int32} {σ' : Mem} (hC : CallFix p m c cX8_isWithin 3 s args WALL RX8) (hG : GS D cy A s) (hR : 0 ≤ R.frames ∧ 0 ≤ R.locals) (Kr : KrZ p l e R s m args below meth c cX8_isWithin Q D cy ad A z r σ')    (σ : Mem) (H : Heap) (locs : List Loc) (ls : Array Slot) (h : fX8_isWithin_b14  σ = some (r, σ')) (hM : MS D cy ad A s.heap z σ H locs) (hl : lv_has ls 3 []) : W p l e R s m args below meth c H locs 0 0 Q (F0 m 14 ls []) := by
  have hx := hC.1
  have hb := hC.2.1
  unfold fX8_isWithin_b14 at h
  refine lv_iconst (v := 0) hx hb dX8_isWithin_14 (by decide) ?_
  exact wX8_isWithin_b15 hC hG hR Kr _ _ _ _ _ h hM (lv_sub hl [] rfl)
def fX8_isWithin (x0 : Int32) (x1 : Int32) (x2 : Int32) (σ : Mem) : Option (Int32 × Mem) :=
  if x0 < x1 then fX8_isWithin_b14 σ
    else if x2 < x0 then fX8_isWithin_b14 σ
      else fX8_isWithin_b15 1 σ
set_option maxRecDepth 20000 in
theorem wX8_isWithin {r : Int32} {σ' : Mem} (hC : CallFix p m c cX8_isWithin 3 s args WALL RX8) (hG : GS D cy A s) (hR : 0 ≤ R.frames ∧ 0 ≤ R.locals) (Kr : KrZ p l e R s m args below meth c cX8_isWithin Q D cy ad A z r σ') (x0 : Int32) (x1 : Int32) (x2 : Int32) (σ : Mem) (H : Heap) (locs : List Loc) (ls : Array Slot) (h : fX8_isWithin x0 x1 x2 σ = some (r, σ')) (hM : MS D cy ad A s.heap z σ H locs) (hl : lv_has ls 3 [(0, .int x0), (1, .int x1), (2, .int x2)]) : W p l e R s m args below meth c H locs 0 0 Q (F0 m 0 ls []) := by
  have hx := hC.1
  have hb := hC.2.1
  unfold fX8_isWithin at h
  refine lv_iload_n hx hb dX8_isWithin_0 rfl (lv_at hl 0 rfl) ?_
  refine lv_iload_n hx hb dX8_isWithin_1 rfl (lv_at hl 1 rfl) ?_
  refine lv_icmp_lt (tgt := 14) hx hb dX8_isWithin_2 (by decide) (fun c1 => ?_) (fun c1 => ?_)
  · rw [if_pos c1] at h
    exact wX8_isWithin_b14 hC hG hR Kr _ _ _ _ h hM (lv_sub hl [] rfl)
  · rw [if_neg c1] at h
    refine lv_iload_n hx hb dX8_isWithin_5 rfl (lv_at hl 0 rfl) ?_
    refine lv_iload_n hx hb dX8_isWithin_6 rfl (lv_at hl 2 rfl) ?_
    refine lv_icmp_gt (tgt := 14) hx hb dX8_isWithin_7 (by decide) (fun c2 => ?_) (fun c2 => ?_)
    · rw [if_pos c2] at h
      exact wX8_isWithin_b14 hC hG hR Kr _ _ _ _ h hM (lv_sub hl [] rfl)
    · rw [if_neg c2] at h
      refine lv_iconst (v := 1) hx hb dX8_isWithin_10 (by decide) ?_
      refine lv_goto (tgt := 15) hx hb dX8_isWithin_11 (by decide) ?_
      exact wX8_isWithin_b15 hC hG hR Kr _ _ _ _ _ h hM (lv_sub hl [] rfl)
theorem cX8_isWithin_ok {l : Launch} {D : va_G} {cy : Nat → ClassId} {ad : Nat → Nat} {A : Nat → Prop} {z : Nat} {r : Int32} {σ' : Mem} {x0 : Int32} {x1 : Int32} {x2 : Int32} {σ : Mem} (h : fX8_isWithin x0 x1 x2 σ = some (r, σ')) : CtI l yX8_isWithin cX8_isWithin 3 (some .boolean) 0 [.int x0, .int x1, .int x2] D cy ad A z σ r σ' :=
  enterZ (own := RX8) (by decide) rfl (Nat.le_of_ble_eq_true rfl) rfl (fun p e s m below meth c Q ls hC hG hM Kr hl => wX8_isWithin hC hG ⟨Nat.le_refl _, Nat.le_refl _⟩ Kr _ _ _ _ _ _ _ h hM hl)
/-! X8_plus (JJ)J -/
def fX8_plus_b25   (y0 : Int64) (σ : Mem) : Option (Int64 × Mem) :=
  some (y0, σ)
set_option maxRecDepth 20000 in
theorem wX8_plus_b25 {r : Int64} {σ' : Mem} (hC : CallFix p m c cX8_plus 4 s args WALL RX8) (hG : GS D cy A s) (hR : 0 ≤ R.frames ∧ 0 ≤ R.locals) (Kr : KrL p l e R s m args below meth c cX8_plus Q D cy ad A z r σ')   (y0 : Int64) (σ : Mem) (H : Heap) (locs : List Loc) (ls : Array Slot) (h : fX8_plus_b25 y0 σ = some (r, σ')) (hM : MS D cy ad A s.heap z σ H locs) (hl : lv_has ls 4 []) : W p l e R s m args below meth c H locs 0 0 Q (F0 m 25 ls [.long y0]) := by
  have hx := hC.1
  have hb := hC.2.1
  unfold fX8_plus_b25 at h
  obtain ⟨rfl, rfl⟩ := Prod.mk.inj (Option.some.inj h)
  exact Kr _ _ _ _ dX8_plus_25 hM
def fX8_plus_b16    (σ : Mem) : Option (Int64 × Mem) :=
  fX8_plus_b25 (-1) σ
set_option maxRecDepth 20000 in
theorem wX8_plus_b16 {r : Int64} {σ' : Mem} (hC : CallFix p m c cX8_plus 4 s args WALL RX8) (hG : GS D cy A s) (hR : 0 ≤ R.frames ∧ 0 ≤ R.locals) (Kr : KrL p l e R s m args below meth c cX8_plus Q D cy ad A z r σ')    (σ : Mem) (H : Heap) (locs : List Loc) (ls : Array Slot) (h : fX8_plus_b16  σ = some (r, σ')) (hM : MS D cy ad A s.heap z σ H locs) (hl : lv_has ls 4 []) : W p l e R s m args below meth c H locs 0 0 Q (F0 m 16 ls []) := by
  have hx := hC.1
  have hb := hC.2.1
  unfold fX8_plus_b16 at h
  refine lv_ldc2 (v := (-1)) hx hb hC.2.2.2.1 (hC.2.2.2.2 _ wk_X8_146) dX8_plus_16 ?_
  refine lv_goto (tgt := 25) hx hb dX8_plus_19 (by decide) ?_
  exact wX8_plus_b25 hC hG hR Kr _ _ _ _ _ h hM (lv_sub hl [] rfl)
def fX8_plus (x0 : Int64) (x2 : Int64) (σ : Mem) : Option (Int64 × Mem) :=
  if x0 = (-1) then fX8_plus_b16 σ
    else if x2 = (-1) then fX8_plus_b16 σ
      else fX8_plus_b25 (x0 + x2) σ
set_option maxRecDepth 20000 in
theorem wX8_plus {r : Int64} {σ' : Mem} (hC : CallFix p m c cX8_plus 4 s args WALL RX8) (hG : GS D cy A s) (hR : 0 ≤ R.frames ∧ 0 ≤ R.locals) (Kr : KrL p l e R s m args below meth c cX8_plus Q D cy ad A z r σ') (x0 : Int64) (x2 : Int64) (σ : Mem) (H : Heap) (locs : List Loc) (ls : Array Slot) (h : fX8_plus x0 x2 σ = some (r, σ')) (hM : MS D cy ad A s.heap z σ H locs) (hl : lv_has ls 4 [(0, .long x0), (2, .long x2)]) : W p l e R s m args below meth c H locs 0 0 Q (F0 m 0 ls []) := by
  have hx := hC.1
  have hb := hC.2.1
  unfold fX8_plus at h
  refine lv_lload_n hx hb dX8_plus_0 rfl (lv_at hl 0 rfl) ?_
  refine lv_ldc2 (v := (-1)) hx hb hC.2.2.2.1 (hC.2.2.2.2 _ wk_X8_146) dX8_plus_1 ?_
  refine lc_eq (tgt := 16) hx hb dX8_plus_4 dX8_plus_5 (by decide) (fun c1 => ?_) (fun c1 => ?_)
  · rw [if_pos c1] at h
    exact wX8_plus_b16 hC hG hR Kr _ _ _ _ h hM (lv_sub hl [] rfl)
  · rw [if_neg c1] at h
    refine lv_lload_n hx hb dX8_plus_8 rfl (lv_at hl 1 rfl) ?_
    refine lv_ldc2 (v := (-1)) hx hb hC.2.2.2.1 (hC.2.2.2.2 _ wk_X8_146) dX8_plus_9 ?_
    refine lc_ne (tgt := 22) hx hb dX8_plus_12 dX8_plus_13 (by decide) (fun c2 => ?_) (fun c2 => ?_)
    · rw [if_neg c2] at h
      refine lv_lload_n hx hb dX8_plus_22 rfl (lv_at hl 0 rfl) ?_
      refine lv_lload_n hx hb dX8_plus_23 rfl (lv_at hl 1 rfl) ?_
      refine lv_ladd hx hb dX8_plus_24 ?_
      exact wX8_plus_b25 hC hG hR Kr _ _ _ _ _ h hM (lv_sub hl [] rfl)
    · rw [if_pos c2] at h
      exact wX8_plus_b16 hC hG hR Kr _ _ _ _ h hM (lv_sub hl [] rfl)
theorem cX8_plus_ok {l : Launch} {D : va_G} {cy : Nat → ClassId} {ad : Nat → Nat} {A : Nat → Prop} {z : Nat} {r : Int64} {σ' : Mem} {x0 : Int64} {x2 : Int64} {σ : Mem} (h : fX8_plus x0 x2 σ = some (r, σ')) : CtL l yX8_plus cX8_plus 4 (some .long) 0 [.long x0, .long x2] D cy ad A z σ r σ' :=
  enterL (own := RX8) (by decide) rfl (Nat.le_of_ble_eq_true rfl) rfl (fun p e s m below meth c Q ls hC hG hM Kr hl => wX8_plus hC hG ⟨Nat.le_refl _, Nat.le_refl _⟩ Kr _ _ _ _ _ _ h hM hl)
/-! X9_bad (I)Z -/
def fX9_bad_b14  (o0 : Nat) (y0 : Int32) (y1 : Option Nat) (σ : Mem) : Option (Int32 × Mem) :=
  (pI σ 9 8 y1 y0).bind fun m1 =>
    (fI m1 9 5 (some o0)).bind fun t2 =>
    (pI m1 9 9 (some o0) t2).bind fun m3 =>
    some (0, m3)
set_option maxRecDepth 20000 in
theorem wX9_bad_b14 {r : Int32} {σ' : Mem} (hC : CallFix p m c cX9_bad 2 s args WALL RX9) (hG : GS D cy A s) (hR : 0 ≤ R.frames ∧ 0 ≤ R.locals) (Kr : KrZ p l e R s m args below meth c cX9_bad Q D cy ad A z r σ')  (o0 : Nat) (y0 : Int32) (y1 : Option Nat) (σ : Mem) (H : Heap) (locs : List Loc) (ls : Array Slot) (h : fX9_bad_b14 o0 y0 y1 σ = some (r, σ')) (hM : MS D cy ad A s.heap z σ H locs) (hl : lv_has ls 2 [(0, va_rf (Option.map ad (some o0)))]) : W p l e R s m args below meth c H locs 0 0 Q (F0 m 14 ls [.int y0, va_rf (Option.map ad y1)]) := by
  have hx := hC.1
  have hb := hC.2.1
  unfold fX9_bad_b14 at h
  obtain ⟨m1, e_m1, h⟩ := bn h
  refine pf_X9_162 hC hG hM e_m1 dX9_bad_14 (fun H locs hM => ?_)
  refine lr_aload_n hx hb dX9_bad_17 rfl (lv_at hl 0 rfl) ?_
  refine lr_aload_n hx hb dX9_bad_18 rfl (lv_at hl 0 rfl) ?_
  obtain ⟨t2, e_t2, h⟩ := bn h
  refine gf_X9_104 hC hG hM e_t2 dX9_bad_19 ?_
  obtain ⟨m3, e_m3, h⟩ := bn h
  refine pf_X9_165 hC hG hM e_m3 dX9_bad_22 (fun H locs hM => ?_)
  refine lv_iconst (v := 0) hx hb dX9_bad_25 (by decide) ?_
  cases h
  exact Kr _ _ _ _ dX9_bad_26 rfl hM
def fX9_bad (o0 : Nat) (x1 : Int32) (σ : Mem) : Option (Int32 × Mem) :=
  (fI σ 9 6 (some o0)).bind fun t1 =>
    if t1 = 1 then fX9_bad_b14 o0 1 (some o0) σ
    else fX9_bad_b14 o0 x1 (some o0) σ
set_option maxRecDepth 20000 in
theorem wX9_bad {r : Int32} {σ' : Mem} (hC : CallFix p m c cX9_bad 2 s args WALL RX9) (hG : GS D cy A s) (hR : 0 ≤ R.frames ∧ 0 ≤ R.locals) (Kr : KrZ p l e R s m args below meth c cX9_bad Q D cy ad A z r σ') (o0 : Nat) (x1 : Int32) (σ : Mem) (H : Heap) (locs : List Loc) (ls : Array Slot) (h : fX9_bad o0 x1 σ = some (r, σ')) (hM : MS D cy ad A s.heap z σ H locs) (hl : lv_has ls 2 [(0, va_rf (Option.map ad (some o0))), (1, .int x1)]) : W p l e R s m args below meth c H locs 0 0 Q (F0 m 0 ls []) := by
  have hx := hC.1
  have hb := hC.2.1
  unfold fX9_bad at h
  refine lr_aload_n hx hb dX9_bad_0 rfl (lv_at hl 0 rfl) ?_
  refine lr_aload_n hx hb dX9_bad_1 rfl (lv_at hl 0 rfl) ?_
  obtain ⟨t1, e_t1, h⟩ := bn h
  refine gf_X9_107 hC hG hM e_t1 dX9_bad_2 ?_
  refine lv_iconst (v := 1) hx hb dX9_bad_5 (by decide) ?_
  refine lv_icmp_ne (tgt := 13) hx hb dX9_bad_6 (by decide) (fun c2 => ?_) (fun c2 => ?_)
  · rw [if_neg c2] at h
    refine lv_iload_n hx hb dX9_bad_13 rfl (lv_at hl 1 rfl) ?_
    exact wX9_bad_b14 hC hG hR Kr _ _ _ _ _ _ _ h hM (lv_sub hl [0] rfl)
  · rw [if_pos c2] at h
    refine lv_iconst (v := 1) hx hb dX9_bad_9 (by decide) ?_
    refine lv_goto (tgt := 14) hx hb dX9_bad_10 (by decide) ?_
    exact wX9_bad_b14 hC hG hR Kr _ _ _ _ _ _ _ h hM (lv_sub hl [0] rfl)
theorem cX9_bad_ok {l : Launch} {D : va_G} {cy : Nat → ClassId} {ad : Nat → Nat} {A : Nat → Prop} {z : Nat} {r : Int32} {σ' : Mem} {o0 : Nat} {x1 : Int32} {σ : Mem} (h : fX9_bad o0 x1 σ = some (r, σ')) : CtI l yX9_bad cX9_bad 2 (some .boolean) 0 [.ref (ad o0), .int x1] D cy ad A z σ r σ' :=
  enterZ (own := RX9) (by decide) rfl (Nat.le_of_ble_eq_true rfl) rfl (fun p e s m below meth c Q ls hC hG hM Kr hl => wX9_bad hC hG ⟨Nat.le_refl _, Nat.le_refl _⟩ Kr _ _ _ _ _ _ h hM hl)
/-! X9_byteAt (I)I -/
def fX9_byteAt_b18   (y0 : Int32) (σ : Mem) : Option (Int32 × Mem) :=
  some (y0, σ)
set_option maxRecDepth 20000 in
theorem wX9_byteAt_b18 {r : Int32} {σ' : Mem} (hC : CallFix p m c cX9_byteAt 2 s args WALL RX9) (hG : GS D cy A s) (hR : 0 ≤ R.frames ∧ 0 ≤ R.locals) (Kr : KrI p l e R s m args below meth c cX9_byteAt Q D cy ad A z r σ')   (y0 : Int32) (σ : Mem) (H : Heap) (locs : List Loc) (ls : Array Slot) (h : fX9_byteAt_b18 y0 σ = some (r, σ')) (hM : MS D cy ad A s.heap z σ H locs) (hl : lv_has ls 2 []) : W p l e R s m args below meth c H locs 0 0 Q (F0 m 18 ls [.int y0]) := by
  have hx := hC.1
  have hb := hC.2.1
  unfold fX9_byteAt_b18 at h
  obtain ⟨rfl, rfl⟩ := Prod.mk.inj (Option.some.inj h)
  exact Kr _ _ _ _ dX9_byteAt_18 hM
def fX9_byteAt (o0 : Nat) (x1 : Int32) (σ : Mem) : Option (Int32 × Mem) :=
  (fI σ 9 3 (some o0)).bind fun t1 =>
    if t1 ≤ x1 then fX9_byteAt_b18 0 σ
    else (fR σ 9 1 (some o0)).bind fun t3 =>
      (aI σ 11 t3 x1).bind fun t4 =>
      fX9_byteAt_b18 t4 σ
set_option maxRecDepth 20000 in
theorem wX9_byteAt {r : Int32} {σ' : Mem} (hC : CallFix p m c cX9_byteAt 2 s args WALL RX9) (hG : GS D cy A s) (hR : 0 ≤ R.frames ∧ 0 ≤ R.locals) (Kr : KrI p l e R s m args below meth c cX9_byteAt Q D cy ad A z r σ') (o0 : Nat) (x1 : Int32) (σ : Mem) (H : Heap) (locs : List Loc) (ls : Array Slot) (h : fX9_byteAt o0 x1 σ = some (r, σ')) (hM : MS D cy ad A s.heap z σ H locs) (hl : lv_has ls 2 [(0, va_rf (Option.map ad (some o0))), (1, .int x1)]) : W p l e R s m args below meth c H locs 0 0 Q (F0 m 0 ls []) := by
  have hx := hC.1
  have hb := hC.2.1
  unfold fX9_byteAt at h
  refine lv_iload_n hx hb dX9_byteAt_0 rfl (lv_at hl 1 rfl) ?_
  refine lr_aload_n hx hb dX9_byteAt_1 rfl (lv_at hl 0 rfl) ?_
  obtain ⟨t1, e_t1, h⟩ := bn h
  refine gf_X9_98 hC hG hM e_t1 dX9_byteAt_2 ?_
  refine lv_icmp_ge (tgt := 17) hx hb dX9_byteAt_5 (by decide) (fun c2 => ?_) (fun c2 => ?_)
  · rw [if_pos c2] at h
    refine lv_iconst (v := 0) hx hb dX9_byteAt_17 (by decide) ?_
    exact wX9_byteAt_b18 hC hG hR Kr _ _ _ _ _ h hM (lv_sub hl [] rfl)
  · rw [if_neg c2] at h
    refine lr_aload_n hx hb dX9_byteAt_8 rfl (lv_at hl 0 rfl) ?_
    obtain ⟨t3, e_t3, h⟩ := bn h
    refine gf_X9_7 hC hG hM e_t3 dX9_byteAt_9 ?_
    refine lv_iload_n hx hb dX9_byteAt_12 rfl (lv_at hl 1 rfl) ?_
    obtain ⟨t4, e_t4, h⟩ := bn h
    refine g_iald hx hb hG hM e_t4 dX9_byteAt_13 ?_
    refine lv_goto (tgt := 18) hx hb dX9_byteAt_14 (by decide) ?_
    exact wX9_byteAt_b18 hC hG hR Kr _ _ _ _ _ h hM (lv_sub hl [] rfl)
theorem cX9_byteAt_ok {l : Launch} {D : va_G} {cy : Nat → ClassId} {ad : Nat → Nat} {A : Nat → Prop} {z : Nat} {r : Int32} {σ' : Mem} {o0 : Nat} {x1 : Int32} {σ : Mem} (h : fX9_byteAt o0 x1 σ = some (r, σ')) : CtI l yX9_byteAt cX9_byteAt 2 (some .int) 0 [.ref (ad o0), .int x1] D cy ad A z σ r σ' :=
  enterI (own := RX9) (by decide) rfl (Nat.le_of_ble_eq_true rfl) rfl (fun p e s m below meth c Q ls hC hG hM Kr hl => wX9_byteAt hC hG ⟨Nat.le_refl _, Nat.le_refl _⟩ Kr _ _ _ _ _ _ h hM hl)
/-! X9_cell (III)I -/
def fX9_cell (x0 : Int32) (x1 : Int32) (x2 : Int32) (σ : Mem) : Option (Int32 × Mem) :=
  some ((((4 * x0) + x1) * 24) + x2, σ)
set_option maxRecDepth 20000 in
theorem wX9_cell {r : Int32} {σ' : Mem} (hC : CallFix p m c cX9_cell 3 s args WALL RX9) (hG : GS D cy A s) (hR : 0 ≤ R.frames ∧ 0 ≤ R.locals) (Kr : KrI p l e R s m args below meth c cX9_cell Q D cy ad A z r σ') (x0 : Int32) (x1 : Int32) (x2 : Int32) (σ : Mem) (H : Heap) (locs : List Loc) (ls : Array Slot) (h : fX9_cell x0 x1 x2 σ = some (r, σ')) (hM : MS D cy ad A s.heap z σ H locs) (hl : lv_has ls 3 [(0, .int x0), (1, .int x1), (2, .int x2)]) : W p l e R s m args below meth c H locs 0 0 Q (F0 m 0 ls []) := by
  have hx := hC.1
  have hb := hC.2.1
  unfold fX9_cell at h
  refine lv_iconst (v := 4) hx hb dX9_cell_0 (by decide) ?_
  refine lv_iload_n hx hb dX9_cell_1 rfl (lv_at hl 0 rfl) ?_
  refine lv_imul hx hb dX9_cell_2 ?_
  refine lv_iload_n hx hb dX9_cell_3 rfl (lv_at hl 1 rfl) ?_
  refine lv_iadd hx hb dX9_cell_4 ?_
  refine lv_bipush (v := 24) hx hb dX9_cell_5 (by decide) ?_
  refine lv_imul hx hb dX9_cell_7 ?_
  refine lv_iload_n hx hb dX9_cell_8 rfl (lv_at hl 2 rfl) ?_
  refine lv_iadd hx hb dX9_cell_9 ?_
  obtain ⟨rfl, rfl⟩ := Prod.mk.inj (Option.some.inj h)
  exact Kr _ _ _ _ dX9_cell_10 hM
theorem cX9_cell_ok {l : Launch} {D : va_G} {cy : Nat → ClassId} {ad : Nat → Nat} {A : Nat → Prop} {z : Nat} {r : Int32} {σ' : Mem} {x0 : Int32} {x1 : Int32} {x2 : Int32} {σ : Mem} (h : fX9_cell x0 x1 x2 σ = some (r, σ')) : CtI l yX9_cell cX9_cell 3 (some .int) 0 [.int x0, .int x1, .int x2] D cy ad A z σ r σ' :=
  enterI (own := RX9) (by decide) rfl (Nat.le_of_ble_eq_true rfl) rfl (fun p e s m below meth c Q ls hC hG hM Kr hl => wX9_cell hC hG ⟨Nat.le_refl _, Nat.le_refl _⟩ Kr _ _ _ _ _ _ _ h hM hl)
/-! X9_change (I)Z -/
def fX9_change_b15    (σ : Mem) : Option (Int32 × Mem) :=
  some (0, σ)
set_option maxRecDepth 20000 in
theorem wX9_change_b15 {r : Int32} {σ' : Mem} (hC : CallFix p m c cX9_change 2 s args WALL RX9) (hG : GS D cy A s) (hR : 0 ≤ R.frames ∧ 0 ≤ R.locals) (Kr : KrZ p l e R s m args below meth c cX9_change Q D cy ad A z r σ')    (σ : Mem) (H : Heap) (locs : List Loc) (ls : Array Slot) (h : fX9_change_b15  σ = some (r, σ')) (hM : MS D cy ad A s.heap z σ H locs) (hl : lv_has ls 2 []) : W p l e R s m args below meth c H locs 0 0 Q (F0 m 15 ls []) := by
  have hx := hC.1
  have hb := hC.2.1
  unfold fX9_change_b15 at h
  refine lv_iconst (v := 0) hx hb dX9_change_15 (by decide) ?_
  cases h
  exact Kr _ _ _ _ dX9_change_16 rfl hM
def fX9_change (o0 : Nat) (x1 : Int32) (σ : Mem) : Option (Int32 × Mem) :=
  (pI σ 9 0 (some o0) 0).bind fun m1 =>
    if x1 < 0 then fX9_change_b15 m1
    else if x1 ≤ 100000 then (pI m1 9 28 (some o0) x1).bind fun m4 =>
        some (1, m4)
      else fX9_change_b15 m1
set_option maxRecDepth 20000 in
theorem wX9_change {r : Int32} {σ' : Mem} (hC : CallFix p m c cX9_change 2 s args WALL RX9) (hG : GS D cy A s) (hR : 0 ≤ R.frames ∧ 0 ≤ R.locals) (Kr : KrZ p l e R s m args below meth c cX9_change Q D cy ad A z r σ') (o0 : Nat) (x1 : Int32) (σ : Mem) (H : Heap) (locs : List Loc) (ls : Array Slot) (h : fX9_change o0 x1 σ = some (r, σ')) (hM : MS D cy ad A s.heap z σ H locs) (hl : lv_has ls 2 [(0, va_rf (Option.map ad (some o0))), (1, .int x1)]) : W p l e R s m args below meth c H locs 0 0 Q (F0 m 0 ls []) := by
  have hx := hC.1
  have hb := hC.2.1
  unfold fX9_change at h
  refine lr_aload_n hx hb dX9_change_0 rfl (lv_at hl 0 rfl) ?_
  refine lv_iconst (v := 0) hx hb dX9_change_1 (by decide) ?_
  obtain ⟨m1, e_m1, h⟩ := bn h
  refine pf_X9_87 hC hG hM e_m1 dX9_change_2 (fun H locs hM => ?_)
  refine lv_iload_n hx hb dX9_change_5 rfl (lv_at hl 1 rfl) ?_
  refine lv_if_lt (tgt := 15) hx hb dX9_change_6 (by decide) (fun c2 => ?_) (fun c2 => ?_)
  · rw [if_pos c2] at h
    exact wX9_change_b15 hC hG hR Kr _ _ _ _ h hM (lv_sub hl [] rfl)
  · rw [if_neg c2] at h
    refine lv_iload_n hx hb dX9_change_9 rfl (lv_at hl 1 rfl) ?_
    refine lv_ldc (v := 100000) hx hb hC.2.2.2.1 (hC.2.2.2.2 _ wk_X9_231) dX9_change_10 ?_
    refine lv_icmp_le (tgt := 17) hx hb dX9_change_12 (by decide) (fun c3 => ?_) (fun c3 => ?_)
    · rw [if_pos c3] at h
      refine lr_aload_n hx hb dX9_change_17 rfl (lv_at hl 0 rfl) ?_
      refine lv_iload_n hx hb dX9_change_18 rfl (lv_at hl 1 rfl) ?_
      obtain ⟨m4, e_m4, h⟩ := bn h
      refine pf_X9_232 hC hG hM e_m4 dX9_change_19 (fun H locs hM => ?_)
      refine lv_iconst (v := 1) hx hb dX9_change_22 (by decide) ?_
      cases h
      exact Kr _ _ _ _ dX9_change_23 rfl hM
    · rw [if_neg c3] at h
      exact wX9_change_b15 hC hG hR Kr _ _ _ _ h hM (lv_sub hl [] rfl)
theorem cX9_change_ok {l : Launch} {D : va_G} {cy : Nat → ClassId} {ad : Nat → Nat} {A : Nat → Prop} {z : Nat} {r : Int32} {σ' : Mem} {o0 : Nat} {x1 : Int32} {σ : Mem} (h : fX9_change o0 x1 σ = some (r, σ')) : CtI l yX9_change cX9_change 2 (some .boolean) 0 [.ref (ad o0), .int x1] D cy ad A z σ r σ' :=
  enterZ (own := RX9) (by decide) rfl (Nat.le_of_ble_eq_true rfl) rfl (fun p e s m below meth c Q ls hC hG hM Kr hl => wX9_change hC hG ⟨Nat.le_refl _, Nat.le_refl _⟩ Kr _ _ _ _ _ _ h hM hl)
/-! X9_come (I)V -/
def fX9_come_b39    (σ : Mem) : Option (Mem) :=
  some σ
set_option maxRecDepth 20000 in
theorem wX9_come_b39 {σ' : Mem} (hC : CallFix p m c cX9_come 3 s args WALL RX9) (hG : GS D cy A s) (hR : 0 ≤ R.frames ∧ 0 ≤ R.locals) (Kr : KrV p l e R s m args below meth c cX9_come Q D cy ad A z () σ')    (σ : Mem) (H : Heap) (locs : List Loc) (ls : Array Slot) (h : fX9_come_b39  σ = some σ') (hM : MS D cy ad A s.heap z σ H locs) (hl : lv_has ls 3 []) : W p l e R s m args below meth c H locs 0 0 Q (F0 m 39 ls []) := by
  have hx := hC.1
  have hb := hC.2.1
  unfold fX9_come_b39 at h
  cases h
  exact Kr _ _ _ _ dX9_come_39 hM
def fX9_come_b3  : Nat → Nat → Int32 → Int32 → Mem → Option (Mem)
  | 0, _, _, _, _ => none
  | n + 1, o0, x1, x2, σ =>
    if x2 < 0 then fX9_come_b39 σ
      else (fR σ 9 1 (some o0)).bind fun t2 =>
        (fI σ 9 2 (some o0)).bind fun t3 =>
        (wI σ 11 t2 t3 (((x1.toUInt32 >>> (((x2 : Int32)).toUInt32 &&& Int32.toUInt32 31)).toInt32) &&& 255)).bind fun m4 =>
        (fI m4 9 2 (some o0)).bind fun t5 =>
        (pI m4 9 2 (some o0) (t5 + 1)).bind fun m6 =>
        bd (x2 + (-8)) fun t7 =>
        (fX9_come_b3 n) o0 x1 t7 m6
set_option maxRecDepth 20000 in
theorem wX9_come_b3 {σ' : Mem} (hC : CallFix p m c cX9_come 3 s args WALL RX9) (hG : GS D cy A s) (hR : 0 ≤ R.frames ∧ 0 ≤ R.locals) (Kr : KrV p l e R s m args below meth c cX9_come Q D cy ad A z () σ')  : ∀ (n : Nat) (o0 : Nat) (x1 : Int32) (x2 : Int32)  (σ : Mem) (H : Heap) (locs : List Loc) (ls : Array Slot), fX9_come_b3 n o0 x1 x2 σ = some σ' → MS D cy ad A s.heap z σ H locs → lv_has ls 3 [(0, va_rf (Option.map ad (some o0))), (1, .int x1), (2, .int x2)] → W p l e R s m args below meth c H locs 0 0 Q (F0 m 3 ls []) := by
  have hx := hC.1
  have hb := hC.2.1
  intro n
  induction n with
  | zero =>
    intro o0 x1 x2 σ H locs ls h
    cases h
  | succ n ih =>
    intro o0 x1 x2 σ H locs ls h hM hl
    rw [fX9_come_b3] at h
    refine lv_iload_n hx hb dX9_come_3 rfl (lv_at hl 2 rfl) ?_
    refine lv_if_lt (tgt := 39) hx hb dX9_come_4 (by decide) (fun c1 => ?_) (fun c1 => ?_)
    · rw [if_pos c1] at h
      exact wX9_come_b39 hC hG hR Kr _ _ _ _ h hM (lv_sub hl [] rfl)
    · rw [if_neg c1] at h
      refine lr_aload_n hx hb dX9_come_7 rfl (lv_at hl 0 rfl) ?_
      obtain ⟨t2, e_t2, h⟩ := bn h
      refine gf_X9_7 hC hG hM e_t2 dX9_come_8 ?_
      refine lr_aload_n hx hb dX9_come_11 rfl (lv_at hl 0 rfl) ?_
      obtain ⟨t3, e_t3, h⟩ := bn h
      refine gf_X9_91 hC hG hM e_t3 dX9_come_12 ?_
      refine lv_iload_n hx hb dX9_come_15 rfl (lv_at hl 1 rfl) ?_
      refine lv_iload_n hx hb dX9_come_16 rfl (lv_at hl 2 rfl) ?_
      refine lv_iushr hx hb dX9_come_17 rfl ?_
      refine lv_sipush (v := 255) hx hb dX9_come_18 (by decide) ?_
      refine lv_iand hx hb dX9_come_21 ?_
      obtain ⟨m4, e_m4, h⟩ := bn h
      refine g_iast hx hb hG hM e_m4 dX9_come_22 (fun H locs hM => ?_)
      refine lr_aload_n hx hb dX9_come_23 rfl (lv_at hl 0 rfl) ?_
      refine lv_dup hx hb dX9_come_24 (va_cat _) ?_
      obtain ⟨t5, e_t5, h⟩ := bn h
      refine gf_X9_91 hC hG hM e_t5 dX9_come_25 ?_
      refine lv_iconst (v := 1) hx hb dX9_come_28 (by decide) ?_
      refine lv_iadd hx hb dX9_come_29 ?_
      obtain ⟨m6, e_m6, h⟩ := bn h
      refine pf_X9_91 hC hG hM e_m6 dX9_come_30 (fun H locs hM => ?_)
      obtain ⟨t7, e_t7, h⟩ := bd_elim h
      refine lv_iinc (v := t7) (lv' := [(2, .int t7), (0, va_rf (Option.map ad (some o0))), (1, .int x1)]) hx hb dX9_come_33 hl (k := 2) rfl (by rw [e_t7]; rfl) (by decide) (by first | rfl | simp [va_cat]) (fun ls hl => ?_)
      refine lv_goto (tgt := 3) hx hb dX9_come_36 (by decide) ?_
      exact ih _ _ _ _ _ _ _ h hM (lv_sub hl [1, 2, 0] rfl)
def fX9_come (o0 : Nat) (x1 : Int32) (σ : Mem) : Option (Mem) :=
  fX9_come_b3 FU o0 x1 24 σ
set_option maxRecDepth 20000 in
theorem wX9_come {σ' : Mem} (hC : CallFix p m c cX9_come 3 s args WALL RX9) (hG : GS D cy A s) (hR : 0 ≤ R.frames ∧ 0 ≤ R.locals) (Kr : KrV p l e R s m args below meth c cX9_come Q D cy ad A z () σ') (o0 : Nat) (x1 : Int32) (σ : Mem) (H : Heap) (locs : List Loc) (ls : Array Slot) (h : fX9_come o0 x1 σ = some σ') (hM : MS D cy ad A s.heap z σ H locs) (hl : lv_has ls 3 [(0, va_rf (Option.map ad (some o0))), (1, .int x1)]) : W p l e R s m args below meth c H locs 0 0 Q (F0 m 0 ls []) := by
  have hx := hC.1
  have hb := hC.2.1
  unfold fX9_come at h
  refine lv_bipush (v := 24) hx hb dX9_come_0 (by decide) ?_
  refine lv_istore_n (lv' := [(2, .int 24), (0, va_rf (Option.map ad (some o0))), (1, .int x1)]) hx hb dX9_come_2 rfl hl (by decide) (by first | rfl | simp [va_cat]) (fun ls hl => ?_)
  exact wX9_come_b3 hC hG hR Kr FU _ _ _ _ _ _ _ h hM (lv_sub hl [1, 2, 0] rfl)
theorem cX9_come_ok {l : Launch} {D : va_G} {cy : Nat → ClassId} {ad : Nat → Nat} {A : Nat → Prop} {z : Nat} {σ' : Mem} {o0 : Nat} {x1 : Int32} {σ : Mem} (h : fX9_come o0 x1 σ = some σ') : CtV l yX9_come cX9_come 3 none 0 [.ref (ad o0), .int x1] D cy ad A z σ () σ' :=
  enterV (own := RX9) (by decide) rfl (Nat.le_of_ble_eq_true rfl) rfl (fun p e s m below meth c Q ls hC hG hM Kr hl => wX9_come hC hG ⟨Nat.le_refl _, Nat.le_refl _⟩ Kr _ _ _ _ _ _ h hM hl)
end WK
