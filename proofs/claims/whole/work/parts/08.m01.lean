section WK
variable {p : Program} {l : Launch} {e : Env} {R : Room} {s : State} {m : MethodId} {args : Array Value} {below : List Frame} {meth : Method} {c : Code} {Q : State → Prop}
variable {D : va_G} {cy : Nat → ClassId} {ad : Nat → Nat} {A : Nat → Prop} {z : Nat}
/-! X9_count (I)I -/
def fX9_count (o0 : Nat) (x1 : Int32) (σ : Mem) : Option (Int32 × Mem) :=
  (pI σ 9 0 (some o0) 0).bind fun m1 =>
    (if x1 = 0 then (fI m1 9 22 (some o0)).bind fun t3 =>
      some (t3, m1) else if x1 = 1 then (fI m1 9 28 (some o0)).bind fun t5 =>
        some (t5, m1) else if x1 = 2 then (fI m1 9 2 (some o0)).bind fun t7 =>
          some (t7, m1) else if x1 = 3 then (fI m1 9 26 (some o0)).bind fun t9 =>
            some (t9, m1) else some ((-1), m1))
set_option maxRecDepth 20000 in
theorem wX9_count {r : Int32} {σ' : Mem} (hC : CallFix p m c cX9_count 2 s args WALL RX9) (hG : GS D cy A s) (hR : 0 ≤ R.frames ∧ 0 ≤ R.locals) (Kr : KrI p l e R s m args below meth c cX9_count Q D cy ad A z r σ') (o0 : Nat) (x1 : Int32) (σ : Mem) (H : Heap) (locs : List Loc) (ls : Array Slot) (h : fX9_count o0 x1 σ = some (r, σ')) (hM : MS D cy ad A s.heap z σ H locs) (hl : lv_has ls 2 [(0, va_rf (Option.map ad (some o0))), (1, .int x1)]) : W p l e R s m args below meth c H locs 0 0 Q (F0 m 0 ls []) := by
  have hx := hC.1
  have hb := hC.2.1
  unfold fX9_count at h
  refine lr_aload_n hx hb dX9_count_0 rfl (lv_at hl 0 rfl) ?_
  refine lv_iconst (v := 0) hx hb dX9_count_1 (by decide) ?_
  obtain ⟨m1, e_m1, h⟩ := bn h
  refine pf_X9_87 hC hG hM e_m1 dX9_count_2 (fun H locs hM => ?_)
  refine lv_iload_n hx hb dX9_count_5 rfl (lv_at hl 1 rfl) ?_
  by_cases c2 : x1 = 0
  · rw [if_pos c2] at h
    refine lv_tableIn (tgt := 36) hx hb dX9_count_6 (by rw [c2]; decide) (by rw [c2]; decide) (by rw [c2]; rfl) (by decide) ?_
    refine lr_aload_n hx hb dX9_count_36 rfl (lv_at hl 0 rfl) ?_
    obtain ⟨t3, e_t3, h⟩ := bn h
    refine gf_X9_205 hC hG hM e_t3 dX9_count_37 ?_
    obtain ⟨rfl, rfl⟩ := Prod.mk.inj (Option.some.inj h)
    exact Kr _ _ _ _ dX9_count_40 hM
  · rw [if_neg c2] at h
    by_cases c4 : x1 = 1
    · rw [if_pos c4] at h
      refine lv_tableIn (tgt := 41) hx hb dX9_count_6 (by rw [c4]; decide) (by rw [c4]; decide) (by rw [c4]; rfl) (by decide) ?_
      refine lr_aload_n hx hb dX9_count_41 rfl (lv_at hl 0 rfl) ?_
      obtain ⟨t5, e_t5, h⟩ := bn h
      refine gf_X9_232 hC hG hM e_t5 dX9_count_42 ?_
      obtain ⟨rfl, rfl⟩ := Prod.mk.inj (Option.some.inj h)
      exact Kr _ _ _ _ dX9_count_45 hM
    · rw [if_neg c4] at h
      by_cases c6 : x1 = 2
      · rw [if_pos c6] at h
        refine lv_tableIn (tgt := 46) hx hb dX9_count_6 (by rw [c6]; decide) (by rw [c6]; decide) (by rw [c6]; rfl) (by decide) ?_
        refine lr_aload_n hx hb dX9_count_46 rfl (lv_at hl 0 rfl) ?_
        obtain ⟨t7, e_t7, h⟩ := bn h
        refine gf_X9_91 hC hG hM e_t7 dX9_count_47 ?_
        obtain ⟨rfl, rfl⟩ := Prod.mk.inj (Option.some.inj h)
        exact Kr _ _ _ _ dX9_count_50 hM
      · rw [if_neg c6] at h
        by_cases c8 : x1 = 3
        · rw [if_pos c8] at h
          refine lv_tableIn (tgt := 51) hx hb dX9_count_6 (by rw [c8]; decide) (by rw [c8]; decide) (by rw [c8]; rfl) (by decide) ?_
          refine lr_aload_n hx hb dX9_count_51 rfl (lv_at hl 0 rfl) ?_
          obtain ⟨t9, e_t9, h⟩ := bn h
          refine gf_X9_221 hC hG hM e_t9 dX9_count_52 ?_
          obtain ⟨rfl, rfl⟩ := Prod.mk.inj (Option.some.inj h)
          exact Kr _ _ _ _ dX9_count_55 hM
        · rw [if_neg c8] at h
          refine lv_tableOut (tgt := 56) hx hb dX9_count_6 (by have n_c2 := lv_neT c2 (show (0 : Int32).toInt = 0 from rfl); have n_c4 := lv_neT c4 (show (1 : Int32).toInt = 1 from rfl); have n_c6 := lv_neT c6 (show (2 : Int32).toInt = 2 from rfl); have n_c8 := lv_neT c8 (show (3 : Int32).toInt = 3 from rfl); omega) (by decide) ?_
          refine lv_iconst (v := (-1)) hx hb dX9_count_56 (by decide) ?_
          obtain ⟨rfl, rfl⟩ := Prod.mk.inj (Option.some.inj h)
          exact Kr _ _ _ _ dX9_count_57 hM
theorem cX9_count_ok {l : Launch} {D : va_G} {cy : Nat → ClassId} {ad : Nat → Nat} {A : Nat → Prop} {z : Nat} {r : Int32} {σ' : Mem} {o0 : Nat} {x1 : Int32} {σ : Mem} (h : fX9_count o0 x1 σ = some (r, σ')) : CtI l yX9_count cX9_count 2 (some .int) 0 [.ref (ad o0), .int x1] D cy ad A z σ r σ' :=
  enterI (own := RX9) (by decide) rfl (Nat.le_of_ble_eq_true rfl) rfl (fun p e s m below meth c Q ls hC hG hM Kr hl => wX9_count hC hG ⟨Nat.le_refl _, Nat.le_refl _⟩ Kr _ _ _ _ _ _ h hM hl)
/-! X9_end (I)Z -/
def fX9_end_b17    (σ : Mem) : Option (Int32 × Mem) :=
  some (0, σ)
set_option maxRecDepth 20000 in
theorem wX9_end_b17 {r : Int32} {σ' : Mem} (hC : CallFix p m c cX9_end 2 s args WALL RX9) (hG : GS D cy A s) (hR : 0 ≤ R.frames ∧ 0 ≤ R.locals) (Kr : KrZ p l e R s m args below meth c cX9_end Q D cy ad A z r σ')    (σ : Mem) (H : Heap) (locs : List Loc) (ls : Array Slot) (h : fX9_end_b17  σ = some (r, σ')) (hM : MS D cy ad A s.heap z σ H locs) (hl : lv_has ls 2 []) : W p l e R s m args below meth c H locs 0 0 Q (F0 m 17 ls []) := by
  have hx := hC.1
  have hb := hC.2.1
  unfold fX9_end_b17 at h
  refine lv_iconst (v := 0) hx hb dX9_end_17 (by decide) ?_
  cases h
  exact Kr _ _ _ _ dX9_end_18 rfl hM
def fX9_end (o0 : Nat) (x1 : Int32) (σ : Mem) : Option (Int32 × Mem) :=
  (pI σ 9 0 (some o0) 0).bind fun m1 =>
    if x1 < 0 then fX9_end_b17 m1
    else (fI m1 9 2 (some o0)).bind fun t3 =>
      if x1 ≤ t3 then (pI m1 9 2 (some o0) x1).bind fun m5 =>
        some (1, m5)
      else fX9_end_b17 m1
set_option maxRecDepth 20000 in
theorem wX9_end {r : Int32} {σ' : Mem} (hC : CallFix p m c cX9_end 2 s args WALL RX9) (hG : GS D cy A s) (hR : 0 ≤ R.frames ∧ 0 ≤ R.locals) (Kr : KrZ p l e R s m args below meth c cX9_end Q D cy ad A z r σ') (o0 : Nat) (x1 : Int32) (σ : Mem) (H : Heap) (locs : List Loc) (ls : Array Slot) (h : fX9_end o0 x1 σ = some (r, σ')) (hM : MS D cy ad A s.heap z σ H locs) (hl : lv_has ls 2 [(0, va_rf (Option.map ad (some o0))), (1, .int x1)]) : W p l e R s m args below meth c H locs 0 0 Q (F0 m 0 ls []) := by
  have hx := hC.1
  have hb := hC.2.1
  unfold fX9_end at h
  refine lr_aload_n hx hb dX9_end_0 rfl (lv_at hl 0 rfl) ?_
  refine lv_iconst (v := 0) hx hb dX9_end_1 (by decide) ?_
  obtain ⟨m1, e_m1, h⟩ := bn h
  refine pf_X9_87 hC hG hM e_m1 dX9_end_2 (fun H locs hM => ?_)
  refine lv_iload_n hx hb dX9_end_5 rfl (lv_at hl 1 rfl) ?_
  refine lv_if_lt (tgt := 17) hx hb dX9_end_6 (by decide) (fun c2 => ?_) (fun c2 => ?_)
  · rw [if_pos c2] at h
    exact wX9_end_b17 hC hG hR Kr _ _ _ _ h hM (lv_sub hl [] rfl)
  · rw [if_neg c2] at h
    refine lv_iload_n hx hb dX9_end_9 rfl (lv_at hl 1 rfl) ?_
    refine lr_aload_n hx hb dX9_end_10 rfl (lv_at hl 0 rfl) ?_
    obtain ⟨t3, e_t3, h⟩ := bn h
    refine gf_X9_91 hC hG hM e_t3 dX9_end_11 ?_
    refine lv_icmp_le (tgt := 19) hx hb dX9_end_14 (by decide) (fun c4 => ?_) (fun c4 => ?_)
    · rw [if_pos c4] at h
      refine lr_aload_n hx hb dX9_end_19 rfl (lv_at hl 0 rfl) ?_
      refine lv_iload_n hx hb dX9_end_20 rfl (lv_at hl 1 rfl) ?_
      obtain ⟨m5, e_m5, h⟩ := bn h
      refine pf_X9_91 hC hG hM e_m5 dX9_end_21 (fun H locs hM => ?_)
      refine lv_iconst (v := 1) hx hb dX9_end_24 (by decide) ?_
      cases h
      exact Kr _ _ _ _ dX9_end_25 rfl hM
    · rw [if_neg c4] at h
      exact wX9_end_b17 hC hG hR Kr _ _ _ _ h hM (lv_sub hl [] rfl)
theorem cX9_end_ok {l : Launch} {D : va_G} {cy : Nat → ClassId} {ad : Nat → Nat} {A : Nat → Prop} {z : Nat} {r : Int32} {σ' : Mem} {o0 : Nat} {x1 : Int32} {σ : Mem} (h : fX9_end o0 x1 σ = some (r, σ')) : CtI l yX9_end cX9_end 2 (some .boolean) 0 [.ref (ad o0), .int x1] D cy ad A z σ r σ' :=
  enterZ (own := RX9) (by decide) rfl (Nat.le_of_ble_eq_true rfl) rfl (fun p e s m below meth c Q ls hC hG hM Kr hl => wX9_end hC hG ⟨Nat.le_refl _, Nat.le_refl _⟩ Kr _ _ _ _ _ _ h hM hl)
/-! X9_fault ()I -/
def fX9_fault (o0 : Nat) (σ : Mem) : Option (Int32 × Mem) :=
  (pI σ 9 0 (some o0) 0).bind fun m1 =>
    (fI m1 9 8 (some o0)).bind fun t2 =>
    some (t2, m1)
set_option maxRecDepth 20000 in
theorem wX9_fault {r : Int32} {σ' : Mem} (hC : CallFix p m c cX9_fault 1 s args WALL RX9) (hG : GS D cy A s) (hR : 0 ≤ R.frames ∧ 0 ≤ R.locals) (Kr : KrI p l e R s m args below meth c cX9_fault Q D cy ad A z r σ') (o0 : Nat) (σ : Mem) (H : Heap) (locs : List Loc) (ls : Array Slot) (h : fX9_fault o0 σ = some (r, σ')) (hM : MS D cy ad A s.heap z σ H locs) (hl : lv_has ls 1 [(0, va_rf (Option.map ad (some o0)))]) : W p l e R s m args below meth c H locs 0 0 Q (F0 m 0 ls []) := by
  have hx := hC.1
  have hb := hC.2.1
  unfold fX9_fault at h
  refine lr_aload_n hx hb dX9_fault_0 rfl (lv_at hl 0 rfl) ?_
  refine lv_iconst (v := 0) hx hb dX9_fault_1 (by decide) ?_
  obtain ⟨m1, e_m1, h⟩ := bn h
  refine pf_X9_87 hC hG hM e_m1 dX9_fault_2 (fun H locs hM => ?_)
  refine lr_aload_n hx hb dX9_fault_5 rfl (lv_at hl 0 rfl) ?_
  obtain ⟨t2, e_t2, h⟩ := bn h
  refine gf_X9_162 hC hG hM e_t2 dX9_fault_6 ?_
  obtain ⟨rfl, rfl⟩ := Prod.mk.inj (Option.some.inj h)
  exact Kr _ _ _ _ dX9_fault_9 hM
theorem cX9_fault_ok {l : Launch} {D : va_G} {cy : Nat → ClassId} {ad : Nat → Nat} {A : Nat → Prop} {z : Nat} {r : Int32} {σ' : Mem} {o0 : Nat} {σ : Mem} (h : fX9_fault o0 σ = some (r, σ')) : CtI l yX9_fault cX9_fault 1 (some .int) 0 [.ref (ad o0)] D cy ad A z σ r σ' :=
  enterI (own := RX9) (by decide) rfl (Nat.le_of_ble_eq_true rfl) rfl (fun p e s m below meth c Q ls hC hG hM Kr hl => wX9_fault hC hG ⟨Nat.le_refl _, Nat.le_refl _⟩ Kr _ _ _ _ _ h hM hl)
/-! X9_had (I)I -/
def fX9_had_b36   (y0 : Int32) (σ : Mem) : Option (Int32 × Mem) :=
  some (y0, σ)
set_option maxRecDepth 20000 in
theorem wX9_had_b36 {r : Int32} {σ' : Mem} (hC : CallFix p m c cX9_had 2 s args WALL RX9) (hG : GS D cy A s) (hR : 0 ≤ R.frames ∧ 0 ≤ R.locals) (Kr : KrI p l e R s m args below meth c cX9_had Q D cy ad A z r σ')   (y0 : Int32) (σ : Mem) (H : Heap) (locs : List Loc) (ls : Array Slot) (h : fX9_had_b36 y0 σ = some (r, σ')) (hM : MS D cy ad A s.heap z σ H locs) (hl : lv_has ls 2 []) : W p l e R s m args below meth c H locs 0 0 Q (F0 m 36 ls [.int y0]) := by
  have hx := hC.1
  have hb := hC.2.1
  unfold fX9_had_b36 at h
  obtain ⟨rfl, rfl⟩ := Prod.mk.inj (Option.some.inj h)
  exact Kr _ _ _ _ dX9_had_36 hM
def fX9_had_b21    (σ : Mem) : Option (Int32 × Mem) :=
  fX9_had_b36 (-1) σ
set_option maxRecDepth 20000 in
theorem wX9_had_b21 {r : Int32} {σ' : Mem} (hC : CallFix p m c cX9_had 2 s args WALL RX9) (hG : GS D cy A s) (hR : 0 ≤ R.frames ∧ 0 ≤ R.locals) (Kr : KrI p l e R s m args below meth c cX9_had Q D cy ad A z r σ')    (σ : Mem) (H : Heap) (locs : List Loc) (ls : Array Slot) (h : fX9_had_b21  σ = some (r, σ')) (hM : MS D cy ad A s.heap z σ H locs) (hl : lv_has ls 2 []) : W p l e R s m args below meth c H locs 0 0 Q (F0 m 21 ls []) := by
  have hx := hC.1
  have hb := hC.2.1
  unfold fX9_had_b21 at h
  refine lv_iconst (v := (-1)) hx hb dX9_had_21 (by decide) ?_
  refine lv_goto (tgt := 36) hx hb dX9_had_22 (by decide) ?_
  exact wX9_had_b36 hC hG hR Kr _ _ _ _ _ h hM (lv_sub hl [] rfl)
def fX9_had (o0 : Nat) (x1 : Int32) (σ : Mem) : Option (Int32 × Mem) :=
  (pI σ 9 0 (some o0) 0).bind fun m1 =>
    (fI m1 9 34 (some o0)).bind fun t2 =>
    if x1 < t2 then fX9_had_b21 m1
    else (fI m1 9 35 (some o0)).bind fun t4 =>
      if x1 < t4 then (fR m1 9 33 (some o0)).bind fun t6 =>
        (fI m1 9 34 (some o0)).bind fun t7 =>
        (aI m1 11 t6 (x1 - t7)).bind fun t8 =>
        fX9_had_b36 t8 m1
      else fX9_had_b21 m1
set_option maxRecDepth 20000 in
theorem wX9_had {r : Int32} {σ' : Mem} (hC : CallFix p m c cX9_had 2 s args WALL RX9) (hG : GS D cy A s) (hR : 0 ≤ R.frames ∧ 0 ≤ R.locals) (Kr : KrI p l e R s m args below meth c cX9_had Q D cy ad A z r σ') (o0 : Nat) (x1 : Int32) (σ : Mem) (H : Heap) (locs : List Loc) (ls : Array Slot) (h : fX9_had o0 x1 σ = some (r, σ')) (hM : MS D cy ad A s.heap z σ H locs) (hl : lv_has ls 2 [(0, va_rf (Option.map ad (some o0))), (1, .int x1)]) : W p l e R s m args below meth c H locs 0 0 Q (F0 m 0 ls []) := by
  have hx := hC.1
  have hb := hC.2.1
  unfold fX9_had at h
  refine lr_aload_n hx hb dX9_had_0 rfl (lv_at hl 0 rfl) ?_
  refine lv_iconst (v := 0) hx hb dX9_had_1 (by decide) ?_
  obtain ⟨m1, e_m1, h⟩ := bn h
  refine pf_X9_87 hC hG hM e_m1 dX9_had_2 (fun H locs hM => ?_)
  refine lv_iload_n hx hb dX9_had_5 rfl (lv_at hl 1 rfl) ?_
  refine lr_aload_n hx hb dX9_had_6 rfl (lv_at hl 0 rfl) ?_
  obtain ⟨t2, e_t2, h⟩ := bn h
  refine gf_X9_208 hC hG hM e_t2 dX9_had_7 ?_
  refine lv_icmp_lt (tgt := 21) hx hb dX9_had_10 (by decide) (fun c3 => ?_) (fun c3 => ?_)
  · rw [if_pos c3] at h
    exact wX9_had_b21 hC hG hR Kr _ _ _ _ h hM (lv_sub hl [] rfl)
  · rw [if_neg c3] at h
    refine lv_iload_n hx hb dX9_had_13 rfl (lv_at hl 1 rfl) ?_
    refine lr_aload_n hx hb dX9_had_14 rfl (lv_at hl 0 rfl) ?_
    obtain ⟨t4, e_t4, h⟩ := bn h
    refine gf_X9_211 hC hG hM e_t4 dX9_had_15 ?_
    refine lv_icmp_lt (tgt := 25) hx hb dX9_had_18 (by decide) (fun c5 => ?_) (fun c5 => ?_)
    · rw [if_pos c5] at h
      refine lr_aload_n hx hb dX9_had_25 rfl (lv_at hl 0 rfl) ?_
      obtain ⟨t6, e_t6, h⟩ := bn h
      refine gf_X9_66 hC hG hM e_t6 dX9_had_26 ?_
      refine lv_iload_n hx hb dX9_had_29 rfl (lv_at hl 1 rfl) ?_
      refine lr_aload_n hx hb dX9_had_30 rfl (lv_at hl 0 rfl) ?_
      obtain ⟨t7, e_t7, h⟩ := bn h
      refine gf_X9_208 hC hG hM e_t7 dX9_had_31 ?_
      refine lv_isub hx hb dX9_had_34 ?_
      obtain ⟨t8, e_t8, h⟩ := bn h
      refine g_iald hx hb hG hM e_t8 dX9_had_35 ?_
      exact wX9_had_b36 hC hG hR Kr _ _ _ _ _ h hM (lv_sub hl [] rfl)
    · rw [if_neg c5] at h
      exact wX9_had_b21 hC hG hR Kr _ _ _ _ h hM (lv_sub hl [] rfl)
theorem cX9_had_ok {l : Launch} {D : va_G} {cy : Nat → ClassId} {ad : Nat → Nat} {A : Nat → Prop} {z : Nat} {r : Int32} {σ' : Mem} {o0 : Nat} {x1 : Int32} {σ : Mem} (h : fX9_had o0 x1 σ = some (r, σ')) : CtI l yX9_had cX9_had 2 (some .int) 0 [.ref (ad o0), .int x1] D cy ad A z σ r σ' :=
  enterI (own := RX9) (by decide) rfl (Nat.le_of_ble_eq_true rfl) rfl (fun p e s m below meth c Q ls hC hG hM Kr hl => wX9_had hC hG ⟨Nat.le_refl _, Nat.le_refl _⟩ Kr _ _ _ _ _ _ h hM hl)
/-! X9_isAhead (III)Z -/
def fX9_isAhead_b80   (y0 : Int32) (σ : Mem) : Option (Int32 × Mem) :=
  if y0 = 0 ∨ y0 = 1 then some (y0, σ) else none
set_option maxRecDepth 20000 in
theorem wX9_isAhead_b80 {r : Int32} {σ' : Mem} (hC : CallFix p m c cX9_isAhead 5 s args WALL RX9) (hG : GS D cy A s) (hR : 0 ≤ R.frames ∧ 0 ≤ R.locals) (Kr : KrZ p l e R s m args below meth c cX9_isAhead Q D cy ad A z r σ')   (y0 : Int32) (σ : Mem) (H : Heap) (locs : List Loc) (ls : Array Slot) (h : fX9_isAhead_b80 y0 σ = some (r, σ')) (hM : MS D cy ad A s.heap z σ H locs) (hl : lv_has ls 5 []) : W p l e R s m args below meth c H locs 0 0 Q (F0 m 80 ls [.int y0]) := by
  have hx := hC.1
  have hb := hC.2.1
  unfold fX9_isAhead_b80 at h
  by_cases c1 : y0 = 0 ∨ y0 = 1
  · rw [if_pos c1] at h
    cases h
    exact Kr _ _ _ _ dX9_isAhead_80 (nar01 c1) hM
  · rw [if_neg c1] at h
    cases h
def fX9_isAhead_b79    (σ : Mem) : Option (Int32 × Mem) :=
  fX9_isAhead_b80 0 σ
set_option maxRecDepth 20000 in
theorem wX9_isAhead_b79 {r : Int32} {σ' : Mem} (hC : CallFix p m c cX9_isAhead 5 s args WALL RX9) (hG : GS D cy A s) (hR : 0 ≤ R.frames ∧ 0 ≤ R.locals) (Kr : KrZ p l e R s m args below meth c cX9_isAhead Q D cy ad A z r σ')    (σ : Mem) (H : Heap) (locs : List Loc) (ls : Array Slot) (h : fX9_isAhead_b79  σ = some (r, σ')) (hM : MS D cy ad A s.heap z σ H locs) (hl : lv_has ls 5 []) : W p l e R s m args below meth c H locs 0 0 Q (F0 m 79 ls []) := by
  have hx := hC.1
  have hb := hC.2.1
  unfold fX9_isAhead_b79 at h
  refine lv_iconst (v := 0) hx hb dX9_isAhead_79 (by decide) ?_
  exact wX9_isAhead_b80 hC hG hR Kr _ _ _ _ _ h hM (lv_sub hl [] rfl)
def fX9_isAhead_b42  (o0 : Nat) (x1 : Int32) (x2 : Int32) (x3 : Int32) (x4 : Int32)  (σ : Mem) : Option (Int32 × Mem) :=
  if x3 ≤ x4 then fX9_isAhead_b79 σ
    else (fR σ 9 31 (some o0)).bind fun t2 =>
      (aI σ 11 t2 ((24 * x1) + x4)).bind fun t3 =>
      (fR σ 9 31 (some o0)).bind fun t4 =>
      (aI σ 11 t4 ((24 * x2) + x4)).bind fun t5 =>
      if t5 ≤ t3 then fX9_isAhead_b79 σ
      else fX9_isAhead_b80 1 σ
set_option maxRecDepth 20000 in
theorem wX9_isAhead_b42 {r : Int32} {σ' : Mem} (hC : CallFix p m c cX9_isAhead 5 s args WALL RX9) (hG : GS D cy A s) (hR : 0 ≤ R.frames ∧ 0 ≤ R.locals) (Kr : KrZ p l e R s m args below meth c cX9_isAhead Q D cy ad A z r σ')  (o0 : Nat) (x1 : Int32) (x2 : Int32) (x3 : Int32) (x4 : Int32)  (σ : Mem) (H : Heap) (locs : List Loc) (ls : Array Slot) (h : fX9_isAhead_b42 o0 x1 x2 x3 x4 σ = some (r, σ')) (hM : MS D cy ad A s.heap z σ H locs) (hl : lv_has ls 5 [(0, va_rf (Option.map ad (some o0))), (1, .int x1), (2, .int x2), (3, .int x3), (4, .int x4)]) : W p l e R s m args below meth c H locs 0 0 Q (F0 m 42 ls []) := by
  have hx := hC.1
  have hb := hC.2.1
  unfold fX9_isAhead_b42 at h
  refine lv_iload hx hb dX9_isAhead_42 (lv_at hl 4 rfl) ?_
  refine lv_iload_n hx hb dX9_isAhead_44 rfl (lv_at hl 3 rfl) ?_
  refine lv_icmp_ge (tgt := 79) hx hb dX9_isAhead_45 (by decide) (fun c1 => ?_) (fun c1 => ?_)
  · rw [if_pos c1] at h
    exact wX9_isAhead_b79 hC hG hR Kr _ _ _ _ h hM (lv_sub hl [] rfl)
  · rw [if_neg c1] at h
    refine lr_aload_n hx hb dX9_isAhead_48 rfl (lv_at hl 0 rfl) ?_
    obtain ⟨t2, e_t2, h⟩ := bn h
    refine gf_X9_60 hC hG hM e_t2 dX9_isAhead_49 ?_
    refine lv_bipush (v := 24) hx hb dX9_isAhead_52 (by decide) ?_
    refine lv_iload_n hx hb dX9_isAhead_54 rfl (lv_at hl 1 rfl) ?_
    refine lv_imul hx hb dX9_isAhead_55 ?_
    refine lv_iload hx hb dX9_isAhead_56 (lv_at hl 4 rfl) ?_
    refine lv_iadd hx hb dX9_isAhead_58 ?_
    obtain ⟨t3, e_t3, h⟩ := bn h
    refine g_iald hx hb hG hM e_t3 dX9_isAhead_59 ?_
    refine lr_aload_n hx hb dX9_isAhead_60 rfl (lv_at hl 0 rfl) ?_
    obtain ⟨t4, e_t4, h⟩ := bn h
    refine gf_X9_60 hC hG hM e_t4 dX9_isAhead_61 ?_
    refine lv_bipush (v := 24) hx hb dX9_isAhead_64 (by decide) ?_
    refine lv_iload_n hx hb dX9_isAhead_66 rfl (lv_at hl 2 rfl) ?_
    refine lv_imul hx hb dX9_isAhead_67 ?_
    refine lv_iload hx hb dX9_isAhead_68 (lv_at hl 4 rfl) ?_
    refine lv_iadd hx hb dX9_isAhead_70 ?_
    obtain ⟨t5, e_t5, h⟩ := bn h
    refine g_iald hx hb hG hM e_t5 dX9_isAhead_71 ?_
    refine lv_icmp_ge (tgt := 79) hx hb dX9_isAhead_72 (by decide) (fun c6 => ?_) (fun c6 => ?_)
    · rw [if_pos c6] at h
      exact wX9_isAhead_b79 hC hG hR Kr _ _ _ _ h hM (lv_sub hl [] rfl)
    · rw [if_neg c6] at h
      refine lv_iconst (v := 1) hx hb dX9_isAhead_75 (by decide) ?_
      refine lv_goto (tgt := 80) hx hb dX9_isAhead_76 (by decide) ?_
      exact wX9_isAhead_b80 hC hG hR Kr _ _ _ _ _ h hM (lv_sub hl [] rfl)
def fX9_isAhead_b3  : Nat → Nat → Int32 → Int32 → Int32 → Int32 → Mem → Option (Int32 × Mem)
  | 0, _, _, _, _, _, _ => none
  | n + 1, o0, x1, x2, x3, x4, σ =>
    if x3 ≤ x4 then fX9_isAhead_b42 o0 x1 x2 x3 x4 σ
      else (fR σ 9 31 (some o0)).bind fun t2 =>
        (aI σ 11 t2 ((24 * x1) + x4)).bind fun t3 =>
        (fR σ 9 31 (some o0)).bind fun t4 =>
        (aI σ 11 t4 ((24 * x2) + x4)).bind fun t5 =>
        if t3 = t5 then bd (x4 + 1) fun t7 =>
          (fX9_isAhead_b3 n) o0 x1 x2 x3 t7 σ
        else fX9_isAhead_b42 o0 x1 x2 x3 x4 σ
set_option maxRecDepth 20000 in
theorem wX9_isAhead_b3 {r : Int32} {σ' : Mem} (hC : CallFix p m c cX9_isAhead 5 s args WALL RX9) (hG : GS D cy A s) (hR : 0 ≤ R.frames ∧ 0 ≤ R.locals) (Kr : KrZ p l e R s m args below meth c cX9_isAhead Q D cy ad A z r σ')  : ∀ (n : Nat) (o0 : Nat) (x1 : Int32) (x2 : Int32) (x3 : Int32) (x4 : Int32)  (σ : Mem) (H : Heap) (locs : List Loc) (ls : Array Slot), fX9_isAhead_b3 n o0 x1 x2 x3 x4 σ = some (r, σ') → MS D cy ad A s.heap z σ H locs → lv_has ls 5 [(0, va_rf (Option.map ad (some o0))), (1, .int x1), (2, .int x2), (3, .int x3), (4, .int x4)] → W p l e R s m args below meth c H locs 0 0 Q (F0 m 3 ls []) := by
  have hx := hC.1
  have hb := hC.2.1
  intro n
  induction n with
  | zero =>
    intro o0 x1 x2 x3 x4 σ H locs ls h
    cases h
  | succ n ih =>
    intro o0 x1 x2 x3 x4 σ H locs ls h hM hl
    rw [fX9_isAhead_b3] at h
    refine lv_iload hx hb dX9_isAhead_3 (lv_at hl 4 rfl) ?_
    refine lv_iload_n hx hb dX9_isAhead_5 rfl (lv_at hl 3 rfl) ?_
    refine lv_icmp_ge (tgt := 42) hx hb dX9_isAhead_6 (by decide) (fun c1 => ?_) (fun c1 => ?_)
    · rw [if_pos c1] at h
      exact wX9_isAhead_b42 hC hG hR Kr _ _ _ _ _ _ _ _ _ h hM (lv_sub hl [0, 1, 2, 3, 4] rfl)
    · rw [if_neg c1] at h
      refine lr_aload_n hx hb dX9_isAhead_9 rfl (lv_at hl 0 rfl) ?_
      obtain ⟨t2, e_t2, h⟩ := bn h
      refine gf_X9_60 hC hG hM e_t2 dX9_isAhead_10 ?_
      refine lv_bipush (v := 24) hx hb dX9_isAhead_13 (by decide) ?_
      refine lv_iload_n hx hb dX9_isAhead_15 rfl (lv_at hl 1 rfl) ?_
      refine lv_imul hx hb dX9_isAhead_16 ?_
      refine lv_iload hx hb dX9_isAhead_17 (lv_at hl 4 rfl) ?_
      refine lv_iadd hx hb dX9_isAhead_19 ?_
      obtain ⟨t3, e_t3, h⟩ := bn h
      refine g_iald hx hb hG hM e_t3 dX9_isAhead_20 ?_
      refine lr_aload_n hx hb dX9_isAhead_21 rfl (lv_at hl 0 rfl) ?_
      obtain ⟨t4, e_t4, h⟩ := bn h
      refine gf_X9_60 hC hG hM e_t4 dX9_isAhead_22 ?_
      refine lv_bipush (v := 24) hx hb dX9_isAhead_25 (by decide) ?_
      refine lv_iload_n hx hb dX9_isAhead_27 rfl (lv_at hl 2 rfl) ?_
      refine lv_imul hx hb dX9_isAhead_28 ?_
      refine lv_iload hx hb dX9_isAhead_29 (lv_at hl 4 rfl) ?_
      refine lv_iadd hx hb dX9_isAhead_31 ?_
      obtain ⟨t5, e_t5, h⟩ := bn h
      refine g_iald hx hb hG hM e_t5 dX9_isAhead_32 ?_
      refine lv_icmp_ne (tgt := 42) hx hb dX9_isAhead_33 (by decide) (fun c6 => ?_) (fun c6 => ?_)
      · rw [if_neg c6] at h
        exact wX9_isAhead_b42 hC hG hR Kr _ _ _ _ _ _ _ _ _ h hM (lv_sub hl [0, 1, 2, 3, 4] rfl)
      · rw [if_pos c6] at h
        obtain ⟨t7, e_t7, h⟩ := bd_elim h
        refine lv_iinc (v := t7) (lv' := [(4, .int t7), (0, va_rf (Option.map ad (some o0))), (1, .int x1), (2, .int x2), (3, .int x3)]) hx hb dX9_isAhead_36 hl (k := 4) rfl (by rw [e_t7]; rfl) (by decide) (by first | rfl | simp [va_cat]) (fun ls hl => ?_)
        refine lv_goto (tgt := 3) hx hb dX9_isAhead_39 (by decide) ?_
        exact ih _ _ _ _ _ _ _ _ _ h hM (lv_sub hl [1, 2, 3, 4, 0] rfl)
def fX9_isAhead (o0 : Nat) (x1 : Int32) (x2 : Int32) (x3 : Int32) (σ : Mem) : Option (Int32 × Mem) :=
  fX9_isAhead_b3 FU o0 x1 x2 x3 0 σ
set_option maxRecDepth 20000 in
theorem wX9_isAhead {r : Int32} {σ' : Mem} (hC : CallFix p m c cX9_isAhead 5 s args WALL RX9) (hG : GS D cy A s) (hR : 0 ≤ R.frames ∧ 0 ≤ R.locals) (Kr : KrZ p l e R s m args below meth c cX9_isAhead Q D cy ad A z r σ') (o0 : Nat) (x1 : Int32) (x2 : Int32) (x3 : Int32) (σ : Mem) (H : Heap) (locs : List Loc) (ls : Array Slot) (h : fX9_isAhead o0 x1 x2 x3 σ = some (r, σ')) (hM : MS D cy ad A s.heap z σ H locs) (hl : lv_has ls 5 [(0, va_rf (Option.map ad (some o0))), (1, .int x1), (2, .int x2), (3, .int x3)]) : W p l e R s m args below meth c H locs 0 0 Q (F0 m 0 ls []) := by
  have hx := hC.1
  have hb := hC.2.1
  unfold fX9_isAhead at h
  refine lv_iconst (v := 0) hx hb dX9_isAhead_0 (by decide) ?_
  refine lv_istore (lv' := [(4, .int 0), (0, va_rf (Option.map ad (some o0))), (1, .int x1), (2, .int x2), (3, .int x3)]) hx hb dX9_isAhead_1 hl (by decide) (by first | rfl | simp [va_cat]) (fun ls hl => ?_)
  exact wX9_isAhead_b3 hC hG hR Kr FU _ _ _ _ _ _ _ _ _ h hM (lv_sub hl [1, 2, 3, 4, 0] rfl)
theorem cX9_isAhead_ok {l : Launch} {D : va_G} {cy : Nat → ClassId} {ad : Nat → Nat} {A : Nat → Prop} {z : Nat} {r : Int32} {σ' : Mem} {o0 : Nat} {x1 : Int32} {x2 : Int32} {x3 : Int32} {σ : Mem} (h : fX9_isAhead o0 x1 x2 x3 σ = some (r, σ')) : CtI l yX9_isAhead cX9_isAhead 5 (some .boolean) 0 [.ref (ad o0), .int x1, .int x2, .int x3] D cy ad A z σ r σ' :=
  enterZ (own := RX9) (by decide) rfl (Nat.le_of_ble_eq_true rfl) rfl (fun p e s m below meth c Q ls hC hG hM Kr hl => wX9_isAhead hC hG ⟨Nat.le_refl _, Nat.le_refl _⟩ Kr _ _ _ _ _ _ _ _ h hM hl)
/-! X9_isDigit (I)Z -/
def fX9_isDigit_b17   (y0 : Int32) (σ : Mem) : Option (Int32 × Mem) :=
  if y0 = 0 ∨ y0 = 1 then some (y0, σ) else none
set_option maxRecDepth 20000 in
theorem wX9_isDigit_b17 {r : Int32} {σ' : Mem} (hC : CallFix p m c cX9_isDigit 1 s args WALL RX9) (hG : GS D cy A s) (hR : 0 ≤ R.frames ∧ 0 ≤ R.locals) (Kr : KrZ p l e R s m args below meth c cX9_isDigit Q D cy ad A z r σ')   (y0 : Int32) (σ : Mem) (H : Heap) (locs : List Loc) (ls : Array Slot) (h : fX9_isDigit_b17 y0 σ = some (r, σ')) (hM : MS D cy ad A s.heap z σ H locs) (hl : lv_has ls 1 []) : W p l e R s m args below meth c H locs 0 0 Q (F0 m 17 ls [.int y0]) := by
  have hx := hC.1
  have hb := hC.2.1
  unfold fX9_isDigit_b17 at h
  by_cases c1 : y0 = 0 ∨ y0 = 1
  · rw [if_pos c1] at h
    cases h
    exact Kr _ _ _ _ dX9_isDigit_17 (nar01 c1) hM
  · rw [if_neg c1] at h
    cases h
def fX9_isDigit_b16    (σ : Mem) : Option (Int32 × Mem) :=
  fX9_isDigit_b17 0 σ
set_option maxRecDepth 20000 in
theorem wX9_isDigit_b16 {r : Int32} {σ' : Mem} (hC : CallFix p m c cX9_isDigit 1 s args WALL RX9) (hG : GS D cy A s) (hR : 0 ≤ R.frames ∧ 0 ≤ R.locals) (Kr : KrZ p l e R s m args below meth c cX9_isDigit Q D cy ad A z r σ')    (σ : Mem) (H : Heap) (locs : List Loc) (ls : Array Slot) (h : fX9_isDigit_b16  σ = some (r, σ')) (hM : MS D cy ad A s.heap z σ H locs) (hl : lv_has ls 1 []) : W p l e R s m args below meth c H locs 0 0 Q (F0 m 16 ls []) := by
  have hx := hC.1
  have hb := hC.2.1
  unfold fX9_isDigit_b16 at h
  refine lv_iconst (v := 0) hx hb dX9_isDigit_16 (by decide) ?_
  exact wX9_isDigit_b17 hC hG hR Kr _ _ _ _ _ h hM (lv_sub hl [] rfl)
def fX9_isDigit (x0 : Int32) (σ : Mem) : Option (Int32 × Mem) :=
  if x0 < 48 then fX9_isDigit_b16 σ
    else if 57 < x0 then fX9_isDigit_b16 σ
      else fX9_isDigit_b17 1 σ
set_option maxRecDepth 20000 in
theorem wX9_isDigit {r : Int32} {σ' : Mem} (hC : CallFix p m c cX9_isDigit 1 s args WALL RX9) (hG : GS D cy A s) (hR : 0 ≤ R.frames ∧ 0 ≤ R.locals) (Kr : KrZ p l e R s m args below meth c cX9_isDigit Q D cy ad A z r σ') (x0 : Int32) (σ : Mem) (H : Heap) (locs : List Loc) (ls : Array Slot) (h : fX9_isDigit x0 σ = some (r, σ')) (hM : MS D cy ad A s.heap z σ H locs) (hl : lv_has ls 1 [(0, .int x0)]) : W p l e R s m args below meth c H locs 0 0 Q (F0 m 0 ls []) := by
  have hx := hC.1
  have hb := hC.2.1
  unfold fX9_isDigit at h
  refine lv_iload_n hx hb dX9_isDigit_0 rfl (lv_at hl 0 rfl) ?_
  refine lv_bipush (v := 48) hx hb dX9_isDigit_1 (by decide) ?_
  refine lv_icmp_lt (tgt := 16) hx hb dX9_isDigit_3 (by decide) (fun c1 => ?_) (fun c1 => ?_)
  · rw [if_pos c1] at h
    exact wX9_isDigit_b16 hC hG hR Kr _ _ _ _ h hM (lv_sub hl [] rfl)
  · rw [if_neg c1] at h
    refine lv_iload_n hx hb dX9_isDigit_6 rfl (lv_at hl 0 rfl) ?_
    refine lv_bipush (v := 57) hx hb dX9_isDigit_7 (by decide) ?_
    refine lv_icmp_gt (tgt := 16) hx hb dX9_isDigit_9 (by decide) (fun c2 => ?_) (fun c2 => ?_)
    · rw [if_pos c2] at h
      exact wX9_isDigit_b16 hC hG hR Kr _ _ _ _ h hM (lv_sub hl [] rfl)
    · rw [if_neg c2] at h
      refine lv_iconst (v := 1) hx hb dX9_isDigit_12 (by decide) ?_
      refine lv_goto (tgt := 17) hx hb dX9_isDigit_13 (by decide) ?_
      exact wX9_isDigit_b17 hC hG hR Kr _ _ _ _ _ h hM (lv_sub hl [] rfl)
theorem cX9_isDigit_ok {l : Launch} {D : va_G} {cy : Nat → ClassId} {ad : Nat → Nat} {A : Nat → Prop} {z : Nat} {r : Int32} {σ' : Mem} {x0 : Int32} {σ : Mem} (h : fX9_isDigit x0 σ = some (r, σ')) : CtI l yX9_isDigit cX9_isDigit 1 (some .boolean) 0 [.int x0] D cy ad A z σ r σ' :=
  enterZ (own := RX9) (by decide) rfl (Nat.le_of_ble_eq_true rfl) rfl (fun p e s m below meth c Q ls hC hG hM Kr hl => wX9_isDigit hC hG ⟨Nat.le_refl _, Nat.le_refl _⟩ Kr _ _ _ _ _ h hM hl)
/-! X9_isFree ()Z -/
def fX9_isFree_b123   (y0 : Int32) (σ : Mem) : Option (Int32 × Mem) :=
  if y0 = 0 ∨ y0 = 1 then some (y0, σ) else none
set_option maxRecDepth 20000 in
theorem wX9_isFree_b123 {r : Int32} {σ' : Mem} (hC : CallFix p m c cX9_isFree 1 s args WALL RX9) (hG : GS D cy A s) (hR : 0 ≤ R.frames ∧ 0 ≤ R.locals) (Kr : KrZ p l e R s m args below meth c cX9_isFree Q D cy ad A z r σ')   (y0 : Int32) (σ : Mem) (H : Heap) (locs : List Loc) (ls : Array Slot) (h : fX9_isFree_b123 y0 σ = some (r, σ')) (hM : MS D cy ad A s.heap z σ H locs) (hl : lv_has ls 1 []) : W p l e R s m args below meth c H locs 0 0 Q (F0 m 123 ls [.int y0]) := by
  have hx := hC.1
  have hb := hC.2.1
  unfold fX9_isFree_b123 at h
  by_cases c1 : y0 = 0 ∨ y0 = 1
  · rw [if_pos c1] at h
    cases h
    exact Kr _ _ _ _ dX9_isFree_123 (nar01 c1) hM
  · rw [if_neg c1] at h
    cases h
def fX9_isFree_b122    (σ : Mem) : Option (Int32 × Mem) :=
  fX9_isFree_b123 0 σ
set_option maxRecDepth 20000 in
theorem wX9_isFree_b122 {r : Int32} {σ' : Mem} (hC : CallFix p m c cX9_isFree 1 s args WALL RX9) (hG : GS D cy A s) (hR : 0 ≤ R.frames ∧ 0 ≤ R.locals) (Kr : KrZ p l e R s m args below meth c cX9_isFree Q D cy ad A z r σ')    (σ : Mem) (H : Heap) (locs : List Loc) (ls : Array Slot) (h : fX9_isFree_b122  σ = some (r, σ')) (hM : MS D cy ad A s.heap z σ H locs) (hl : lv_has ls 1 []) : W p l e R s m args below meth c H locs 0 0 Q (F0 m 122 ls []) := by
  have hx := hC.1
  have hb := hC.2.1
  unfold fX9_isFree_b122 at h
  refine lv_iconst (v := 0) hx hb dX9_isFree_122 (by decide) ?_
  exact wX9_isFree_b123 hC hG hR Kr _ _ _ _ _ h hM (lv_sub hl [] rfl)
def fX9_isFree (o0 : Nat) (σ : Mem) : Option (Int32 × Mem) :=
  (fI σ 9 6 (some o0)).bind fun t1 =>
    if t1 = 2 then (fJ σ 9 10 (some o0)).bind fun t3 =>
      if t3 = 323717 then fX9_isFree_b122 σ
      else (fJ σ 9 10 (some o0)).bind fun t5 =>
        if t5 = 4514 then fX9_isFree_b122 σ
        else (fJ σ 9 10 (some o0)).bind fun t7 =>
          if t7 = 397804 then fX9_isFree_b122 σ
          else (fJ σ 9 10 (some o0)).bind fun t9 =>
            if t9 = 131638 then fX9_isFree_b122 σ
            else (fJ σ 9 10 (some o0)).bind fun t11 =>
              if t11 = 11450658 then fX9_isFree_b122 σ
              else (fJ σ 9 10 (some o0)).bind fun t13 =>
                if t13 = 4797 then fX9_isFree_b122 σ
                else (fJ σ 9 10 (some o0)).bind fun t15 =>
                  if t15 = 131360 then fX9_isFree_b122 σ
                  else (fJ σ 9 10 (some o0)).bind fun t17 =>
                    if t17 = 555 then fX9_isFree_b122 σ
                    else (fJ σ 9 10 (some o0)).bind fun t19 =>
                      if t19 = 47 then fX9_isFree_b122 σ
                      else (fJ σ 9 10 (some o0)).bind fun t21 =>
                        if t21 = 358472 then fX9_isFree_b122 σ
                        else fX9_isFree_b123 1 σ
    else fX9_isFree_b122 σ
set_option maxRecDepth 20000 in
theorem wX9_isFree {r : Int32} {σ' : Mem} (hC : CallFix p m c cX9_isFree 1 s args WALL RX9) (hG : GS D cy A s) (hR : 0 ≤ R.frames ∧ 0 ≤ R.locals) (Kr : KrZ p l e R s m args below meth c cX9_isFree Q D cy ad A z r σ') (o0 : Nat) (σ : Mem) (H : Heap) (locs : List Loc) (ls : Array Slot) (h : fX9_isFree o0 σ = some (r, σ')) (hM : MS D cy ad A s.heap z σ H locs) (hl : lv_has ls 1 [(0, va_rf (Option.map ad (some o0)))]) : W p l e R s m args below meth c H locs 0 0 Q (F0 m 0 ls []) := by
  have hx := hC.1
  have hb := hC.2.1
  unfold fX9_isFree at h
  refine lr_aload_n hx hb dX9_isFree_0 rfl (lv_at hl 0 rfl) ?_
  obtain ⟨t1, e_t1, h⟩ := bn h
  refine gf_X9_107 hC hG hM e_t1 dX9_isFree_1 ?_
  refine lv_iconst (v := 2) hx hb dX9_isFree_4 (by decide) ?_
  refine lv_icmp_ne (tgt := 122) hx hb dX9_isFree_5 (by decide) (fun c2 => ?_) (fun c2 => ?_)
  · rw [if_neg c2] at h
    exact wX9_isFree_b122 hC hG hR Kr _ _ _ _ h hM (lv_sub hl [] rfl)
  · rw [if_pos c2] at h
    refine lr_aload_n hx hb dX9_isFree_8 rfl (lv_at hl 0 rfl) ?_
    obtain ⟨t3, e_t3, h⟩ := bn h
    refine gf_X9_117 hC hG hM e_t3 dX9_isFree_9 ?_
    refine gs_X9_132 hC hG hM dX9_isFree_12 ?_
    refine lc_eq (tgt := 122) hx hb dX9_isFree_15 dX9_isFree_16 (by decide) (fun c4 => ?_) (fun c4 => ?_)
    · rw [if_pos c4] at h
      exact wX9_isFree_b122 hC hG hR Kr _ _ _ _ h hM (lv_sub hl [] rfl)
    · rw [if_neg c4] at h
      refine lr_aload_n hx hb dX9_isFree_19 rfl (lv_at hl 0 rfl) ?_
      obtain ⟨t5, e_t5, h⟩ := bn h
      refine gf_X9_117 hC hG hM e_t5 dX9_isFree_20 ?_
      refine gs_X9_135 hC hG hM dX9_isFree_23 ?_
      refine lc_eq (tgt := 122) hx hb dX9_isFree_26 dX9_isFree_27 (by decide) (fun c6 => ?_) (fun c6 => ?_)
      · rw [if_pos c6] at h
        exact wX9_isFree_b122 hC hG hR Kr _ _ _ _ h hM (lv_sub hl [] rfl)
      · rw [if_neg c6] at h
        refine lr_aload_n hx hb dX9_isFree_30 rfl (lv_at hl 0 rfl) ?_
        obtain ⟨t7, e_t7, h⟩ := bn h
        refine gf_X9_117 hC hG hM e_t7 dX9_isFree_31 ?_
        refine gs_X9_138 hC hG hM dX9_isFree_34 ?_
        refine lc_eq (tgt := 122) hx hb dX9_isFree_37 dX9_isFree_38 (by decide) (fun c8 => ?_) (fun c8 => ?_)
        · rw [if_pos c8] at h
          exact wX9_isFree_b122 hC hG hR Kr _ _ _ _ h hM (lv_sub hl [] rfl)
        · rw [if_neg c8] at h
          refine lr_aload_n hx hb dX9_isFree_41 rfl (lv_at hl 0 rfl) ?_
          obtain ⟨t9, e_t9, h⟩ := bn h
          refine gf_X9_117 hC hG hM e_t9 dX9_isFree_42 ?_
          refine gs_X9_141 hC hG hM dX9_isFree_45 ?_
          refine lc_eq (tgt := 122) hx hb dX9_isFree_48 dX9_isFree_49 (by decide) (fun c10 => ?_) (fun c10 => ?_)
          · rw [if_pos c10] at h
            exact wX9_isFree_b122 hC hG hR Kr _ _ _ _ h hM (lv_sub hl [] rfl)
          · rw [if_neg c10] at h
            refine lr_aload_n hx hb dX9_isFree_52 rfl (lv_at hl 0 rfl) ?_
            obtain ⟨t11, e_t11, h⟩ := bn h
            refine gf_X9_117 hC hG hM e_t11 dX9_isFree_53 ?_
            refine gs_X9_144 hC hG hM dX9_isFree_56 ?_
            refine lc_eq (tgt := 122) hx hb dX9_isFree_59 dX9_isFree_60 (by decide) (fun c12 => ?_) (fun c12 => ?_)
            · rw [if_pos c12] at h
              exact wX9_isFree_b122 hC hG hR Kr _ _ _ _ h hM (lv_sub hl [] rfl)
            · rw [if_neg c12] at h
              refine lr_aload_n hx hb dX9_isFree_63 rfl (lv_at hl 0 rfl) ?_
              obtain ⟨t13, e_t13, h⟩ := bn h
              refine gf_X9_117 hC hG hM e_t13 dX9_isFree_64 ?_
              refine gs_X9_147 hC hG hM dX9_isFree_67 ?_
              refine lc_eq (tgt := 122) hx hb dX9_isFree_70 dX9_isFree_71 (by decide) (fun c14 => ?_) (fun c14 => ?_)
              · rw [if_pos c14] at h
                exact wX9_isFree_b122 hC hG hR Kr _ _ _ _ h hM (lv_sub hl [] rfl)
              · rw [if_neg c14] at h
                refine lr_aload_n hx hb dX9_isFree_74 rfl (lv_at hl 0 rfl) ?_
                obtain ⟨t15, e_t15, h⟩ := bn h
                refine gf_X9_117 hC hG hM e_t15 dX9_isFree_75 ?_
                refine gs_X9_150 hC hG hM dX9_isFree_78 ?_
                refine lc_eq (tgt := 122) hx hb dX9_isFree_81 dX9_isFree_82 (by decide) (fun c16 => ?_) (fun c16 => ?_)
                · rw [if_pos c16] at h
                  exact wX9_isFree_b122 hC hG hR Kr _ _ _ _ h hM (lv_sub hl [] rfl)
                · rw [if_neg c16] at h
                  refine lr_aload_n hx hb dX9_isFree_85 rfl (lv_at hl 0 rfl) ?_
                  obtain ⟨t17, e_t17, h⟩ := bn h
                  refine gf_X9_117 hC hG hM e_t17 dX9_isFree_86 ?_
                  refine gs_X9_153 hC hG hM dX9_isFree_89 ?_
                  refine lc_eq (tgt := 122) hx hb dX9_isFree_92 dX9_isFree_93 (by decide) (fun c18 => ?_) (fun c18 => ?_)
                  · rw [if_pos c18] at h
                    exact wX9_isFree_b122 hC hG hR Kr _ _ _ _ h hM (lv_sub hl [] rfl)
                  · rw [if_neg c18] at h
                    refine lr_aload_n hx hb dX9_isFree_96 rfl (lv_at hl 0 rfl) ?_
                    obtain ⟨t19, e_t19, h⟩ := bn h
                    refine gf_X9_117 hC hG hM e_t19 dX9_isFree_97 ?_
                    refine gs_X9_156 hC hG hM dX9_isFree_100 ?_
                    refine lc_eq (tgt := 122) hx hb dX9_isFree_103 dX9_isFree_104 (by decide) (fun c20 => ?_) (fun c20 => ?_)
                    · rw [if_pos c20] at h
                      exact wX9_isFree_b122 hC hG hR Kr _ _ _ _ h hM (lv_sub hl [] rfl)
                    · rw [if_neg c20] at h
                      refine lr_aload_n hx hb dX9_isFree_107 rfl (lv_at hl 0 rfl) ?_
                      obtain ⟨t21, e_t21, h⟩ := bn h
                      refine gf_X9_117 hC hG hM e_t21 dX9_isFree_108 ?_
                      refine gs_X9_159 hC hG hM dX9_isFree_111 ?_
                      refine lc_eq (tgt := 122) hx hb dX9_isFree_114 dX9_isFree_115 (by decide) (fun c22 => ?_) (fun c22 => ?_)
                      · rw [if_pos c22] at h
                        exact wX9_isFree_b122 hC hG hR Kr _ _ _ _ h hM (lv_sub hl [] rfl)
                      · rw [if_neg c22] at h
                        refine lv_iconst (v := 1) hx hb dX9_isFree_118 (by decide) ?_
                        refine lv_goto (tgt := 123) hx hb dX9_isFree_119 (by decide) ?_
                        exact wX9_isFree_b123 hC hG hR Kr _ _ _ _ _ h hM (lv_sub hl [] rfl)
theorem cX9_isFree_ok {l : Launch} {D : va_G} {cy : Nat → ClassId} {ad : Nat → Nat} {A : Nat → Prop} {z : Nat} {r : Int32} {σ' : Mem} {o0 : Nat} {σ : Mem} (h : fX9_isFree o0 σ = some (r, σ')) : CtI l yX9_isFree cX9_isFree 1 (some .boolean) 0 [.ref (ad o0)] D cy ad A z σ r σ' :=
  enterZ (own := RX9) (by decide) rfl (Nat.le_of_ble_eq_true rfl) rfl (fun p e s m below meth c Q ls hC hG hM Kr hl => wX9_isFree hC hG ⟨Nat.le_refl _, Nat.le_refl _⟩ Kr _ _ _ _ _ h hM hl)
/-! X9_isIn (II)Z -/
def fX9_isIn_b14   (y0 : Int32) (σ : Mem) : Option (Int32 × Mem) :=
  if y0 = 0 ∨ y0 = 1 then some (y0, σ) else none
set_option maxRecDepth 20000 in
theorem wX9_isIn_b14 {r : Int32} {σ' : Mem} (hC : CallFix p m c cX9_isIn 2 s args WALL RX9) (hG : GS D cy A s) (hR : 0 ≤ R.frames ∧ 0 ≤ R.locals) (Kr : KrZ p l e R s m args below meth c cX9_isIn Q D cy ad A z r σ')   (y0 : Int32) (σ : Mem) (H : Heap) (locs : List Loc) (ls : Array Slot) (h : fX9_isIn_b14 y0 σ = some (r, σ')) (hM : MS D cy ad A s.heap z σ H locs) (hl : lv_has ls 2 []) : W p l e R s m args below meth c H locs 0 0 Q (F0 m 14 ls [.int y0]) := by
  have hx := hC.1
  have hb := hC.2.1
  unfold fX9_isIn_b14 at h
  by_cases c1 : y0 = 0 ∨ y0 = 1
  · rw [if_pos c1] at h
    cases h
    exact Kr _ _ _ _ dX9_isIn_14 (nar01 c1) hM
  · rw [if_neg c1] at h
    cases h
def fX9_isIn_b13    (σ : Mem) : Option (Int32 × Mem) :=
  fX9_isIn_b14 0 σ
set_option maxRecDepth 20000 in
theorem wX9_isIn_b13 {r : Int32} {σ' : Mem} (hC : CallFix p m c cX9_isIn 2 s args WALL RX9) (hG : GS D cy A s) (hR : 0 ≤ R.frames ∧ 0 ≤ R.locals) (Kr : KrZ p l e R s m args below meth c cX9_isIn Q D cy ad A z r σ')    (σ : Mem) (H : Heap) (locs : List Loc) (ls : Array Slot) (h : fX9_isIn_b13  σ = some (r, σ')) (hM : MS D cy ad A s.heap z σ H locs) (hl : lv_has ls 2 []) : W p l e R s m args below meth c H locs 0 0 Q (F0 m 13 ls []) := by
  have hx := hC.1
  have hb := hC.2.1
  unfold fX9_isIn_b13 at h
  refine lv_iconst (v := 0) hx hb dX9_isIn_13 (by decide) ?_
  exact wX9_isIn_b14 hC hG hR Kr _ _ _ _ _ h hM (lv_sub hl [] rfl)
def fX9_isIn (x0 : Int32) (x1 : Int32) (σ : Mem) : Option (Int32 × Mem) :=
  if x0 < 0 then fX9_isIn_b13 σ
    else if x1 ≤ x0 then fX9_isIn_b13 σ
      else fX9_isIn_b14 1 σ
set_option maxRecDepth 20000 in
theorem wX9_isIn {r : Int32} {σ' : Mem} (hC : CallFix p m c cX9_isIn 2 s args WALL RX9) (hG : GS D cy A s) (hR : 0 ≤ R.frames ∧ 0 ≤ R.locals) (Kr : KrZ p l e R s m args below meth c cX9_isIn Q D cy ad A z r σ') (x0 : Int32) (x1 : Int32) (σ : Mem) (H : Heap) (locs : List Loc) (ls : Array Slot) (h : fX9_isIn x0 x1 σ = some (r, σ')) (hM : MS D cy ad A s.heap z σ H locs) (hl : lv_has ls 2 [(0, .int x0), (1, .int x1)]) : W p l e R s m args below meth c H locs 0 0 Q (F0 m 0 ls []) := by
  have hx := hC.1
  have hb := hC.2.1
  unfold fX9_isIn at h
  refine lv_iload_n hx hb dX9_isIn_0 rfl (lv_at hl 0 rfl) ?_
  refine lv_if_lt (tgt := 13) hx hb dX9_isIn_1 (by decide) (fun c1 => ?_) (fun c1 => ?_)
  · rw [if_pos c1] at h
    exact wX9_isIn_b13 hC hG hR Kr _ _ _ _ h hM (lv_sub hl [] rfl)
  · rw [if_neg c1] at h
    refine lv_iload_n hx hb dX9_isIn_4 rfl (lv_at hl 0 rfl) ?_
    refine lv_iload_n hx hb dX9_isIn_5 rfl (lv_at hl 1 rfl) ?_
    refine lv_icmp_ge (tgt := 13) hx hb dX9_isIn_6 (by decide) (fun c2 => ?_) (fun c2 => ?_)
    · rw [if_pos c2] at h
      exact wX9_isIn_b13 hC hG hR Kr _ _ _ _ h hM (lv_sub hl [] rfl)
    · rw [if_neg c2] at h
      refine lv_iconst (v := 1) hx hb dX9_isIn_9 (by decide) ?_
      refine lv_goto (tgt := 14) hx hb dX9_isIn_10 (by decide) ?_
      exact wX9_isIn_b14 hC hG hR Kr _ _ _ _ _ h hM (lv_sub hl [] rfl)
theorem cX9_isIn_ok {l : Launch} {D : va_G} {cy : Nat → ClassId} {ad : Nat → Nat} {A : Nat → Prop} {z : Nat} {r : Int32} {σ' : Mem} {x0 : Int32} {x1 : Int32} {σ : Mem} (h : fX9_isIn x0 x1 σ = some (r, σ')) : CtI l yX9_isIn cX9_isIn 2 (some .boolean) 0 [.int x0, .int x1] D cy ad A z σ r σ' :=
  enterZ (own := RX9) (by decide) rfl (Nat.le_of_ble_eq_true rfl) rfl (fun p e s m below meth c Q ls hC hG hM Kr hl => wX9_isIn hC hG ⟨Nat.le_refl _, Nat.le_refl _⟩ Kr _ _ _ _ _ _ h hM hl)
/-! X9_isKey (J)Z -/
def fX9_isKey_b22   (y0 : Int32) (σ : Mem) : Option (Int32 × Mem) :=
  if y0 = 0 ∨ y0 = 1 then some (y0, σ) else none
set_option maxRecDepth 20000 in
theorem wX9_isKey_b22 {r : Int32} {σ' : Mem} (hC : CallFix p m c cX9_isKey 3 s args WALL RX9) (hG : GS D cy A s) (hR : 0 ≤ R.frames ∧ 0 ≤ R.locals) (Kr : KrZ p l e R s m args below meth c cX9_isKey Q D cy ad A z r σ')   (y0 : Int32) (σ : Mem) (H : Heap) (locs : List Loc) (ls : Array Slot) (h : fX9_isKey_b22 y0 σ = some (r, σ')) (hM : MS D cy ad A s.heap z σ H locs) (hl : lv_has ls 3 []) : W p l e R s m args below meth c H locs 0 0 Q (F0 m 22 ls [.int y0]) := by
  have hx := hC.1
  have hb := hC.2.1
  unfold fX9_isKey_b22 at h
  by_cases c1 : y0 = 0 ∨ y0 = 1
  · rw [if_pos c1] at h
    cases h
    exact Kr _ _ _ _ dX9_isKey_22 (nar01 c1) hM
  · rw [if_neg c1] at h
    cases h
def fX9_isKey_b21    (σ : Mem) : Option (Int32 × Mem) :=
  fX9_isKey_b22 0 σ
set_option maxRecDepth 20000 in
theorem wX9_isKey_b21 {r : Int32} {σ' : Mem} (hC : CallFix p m c cX9_isKey 3 s args WALL RX9) (hG : GS D cy A s) (hR : 0 ≤ R.frames ∧ 0 ≤ R.locals) (Kr : KrZ p l e R s m args below meth c cX9_isKey Q D cy ad A z r σ')    (σ : Mem) (H : Heap) (locs : List Loc) (ls : Array Slot) (h : fX9_isKey_b21  σ = some (r, σ')) (hM : MS D cy ad A s.heap z σ H locs) (hl : lv_has ls 3 []) : W p l e R s m args below meth c H locs 0 0 Q (F0 m 21 ls []) := by
  have hx := hC.1
  have hb := hC.2.1
  unfold fX9_isKey_b21 at h
  refine lv_iconst (v := 0) hx hb dX9_isKey_21 (by decide) ?_
  exact wX9_isKey_b22 hC hG hR Kr _ _ _ _ _ h hM (lv_sub hl [] rfl)
def fX9_isKey (o0 : Nat) (x1 : Int64) (σ : Mem) : Option (Int32 × Mem) :=
  (fI σ 9 6 (some o0)).bind fun t1 =>
    if t1 = 2 then (fJ σ 9 10 (some o0)).bind fun t3 =>
      if t3 = x1 then fX9_isKey_b22 1 σ
      else fX9_isKey_b21 σ
    else fX9_isKey_b21 σ
set_option maxRecDepth 20000 in
theorem wX9_isKey {r : Int32} {σ' : Mem} (hC : CallFix p m c cX9_isKey 3 s args WALL RX9) (hG : GS D cy A s) (hR : 0 ≤ R.frames ∧ 0 ≤ R.locals) (Kr : KrZ p l e R s m args below meth c cX9_isKey Q D cy ad A z r σ') (o0 : Nat) (x1 : Int64) (σ : Mem) (H : Heap) (locs : List Loc) (ls : Array Slot) (h : fX9_isKey o0 x1 σ = some (r, σ')) (hM : MS D cy ad A s.heap z σ H locs) (hl : lv_has ls 3 [(0, va_rf (Option.map ad (some o0))), (1, .long x1)]) : W p l e R s m args below meth c H locs 0 0 Q (F0 m 0 ls []) := by
  have hx := hC.1
  have hb := hC.2.1
  unfold fX9_isKey at h
  refine lr_aload_n hx hb dX9_isKey_0 rfl (lv_at hl 0 rfl) ?_
  obtain ⟨t1, e_t1, h⟩ := bn h
  refine gf_X9_107 hC hG hM e_t1 dX9_isKey_1 ?_
  refine lv_iconst (v := 2) hx hb dX9_isKey_4 (by decide) ?_
  refine lv_icmp_ne (tgt := 21) hx hb dX9_isKey_5 (by decide) (fun c2 => ?_) (fun c2 => ?_)
  · rw [if_neg c2] at h
    exact wX9_isKey_b21 hC hG hR Kr _ _ _ _ h hM (lv_sub hl [] rfl)
  · rw [if_pos c2] at h
    refine lr_aload_n hx hb dX9_isKey_8 rfl (lv_at hl 0 rfl) ?_
    obtain ⟨t3, e_t3, h⟩ := bn h
    refine gf_X9_117 hC hG hM e_t3 dX9_isKey_9 ?_
    refine lv_lload_n hx hb dX9_isKey_12 rfl (lv_at hl 1 rfl) ?_
    refine lc_ne (tgt := 21) hx hb dX9_isKey_13 dX9_isKey_14 (by decide) (fun c4 => ?_) (fun c4 => ?_)
    · rw [if_neg c4] at h
      exact wX9_isKey_b21 hC hG hR Kr _ _ _ _ h hM (lv_sub hl [] rfl)
    · rw [if_pos c4] at h
      refine lv_iconst (v := 1) hx hb dX9_isKey_17 (by decide) ?_
      refine lv_goto (tgt := 22) hx hb dX9_isKey_18 (by decide) ?_
      exact wX9_isKey_b22 hC hG hR Kr _ _ _ _ _ h hM (lv_sub hl [] rfl)
theorem cX9_isKey_ok {l : Launch} {D : va_G} {cy : Nat → ClassId} {ad : Nat → Nat} {A : Nat → Prop} {z : Nat} {r : Int32} {σ' : Mem} {o0 : Nat} {x1 : Int64} {σ : Mem} (h : fX9_isKey o0 x1 σ = some (r, σ')) : CtI l yX9_isKey cX9_isKey 3 (some .boolean) 0 [.ref (ad o0), .long x1] D cy ad A z σ r σ' :=
  enterZ (own := RX9) (by decide) rfl (Nat.le_of_ble_eq_true rfl) rfl (fun p e s m below meth c Q ls hC hG hM Kr hl => wX9_isKey hC hG ⟨Nat.le_refl _, Nat.le_refl _⟩ Kr _ _ _ _ _ _ h hM hl)
/-! X9_isLetter (I)Z -/
def fX9_isLetter_b17   (y0 : Int32) (σ : Mem) : Option (Int32 × Mem) :=
  if y0 = 0 ∨ y0 = 1 then some (y0, σ) else none
set_option maxRecDepth 20000 in
theorem wX9_isLetter_b17 {r : Int32} {σ' : Mem} (hC : CallFix p m c cX9_isLetter 1 s args WALL RX9) (hG : GS D cy A s) (hR : 0 ≤ R.frames ∧ 0 ≤ R.locals) (Kr : KrZ p l e R s m args below meth c cX9_isLetter Q D cy ad A z r σ')   (y0 : Int32) (σ : Mem) (H : Heap) (locs : List Loc) (ls : Array Slot) (h : fX9_isLetter_b17 y0 σ = some (r, σ')) (hM : MS D cy ad A s.heap z σ H locs) (hl : lv_has ls 1 []) : W p l e R s m args below meth c H locs 0 0 Q (F0 m 17 ls [.int y0]) := by
  have hx := hC.1
  have hb := hC.2.1
  unfold fX9_isLetter_b17 at h
  by_cases c1 : y0 = 0 ∨ y0 = 1
  · rw [if_pos c1] at h
    cases h
    exact Kr _ _ _ _ dX9_isLetter_17 (nar01 c1) hM
  · rw [if_neg c1] at h
    cases h
def fX9_isLetter_b16    (σ : Mem) : Option (Int32 × Mem) :=
  fX9_isLetter_b17 0 σ
set_option maxRecDepth 20000 in
theorem wX9_isLetter_b16 {r : Int32} {σ' : Mem} (hC : CallFix p m c cX9_isLetter 1 s args WALL RX9) (hG : GS D cy A s) (hR : 0 ≤ R.frames ∧ 0 ≤ R.locals) (Kr : KrZ p l e R s m args below meth c cX9_isLetter Q D cy ad A z r σ')    (σ : Mem) (H : Heap) (locs : List Loc) (ls : Array Slot) (h : fX9_isLetter_b16  σ = some (r, σ')) (hM : MS D cy ad A s.heap z σ H locs) (hl : lv_has ls 1 []) : W p l e R s m args below meth c H locs 0 0 Q (F0 m 16 ls []) := by
  have hx := hC.1
  have hb := hC.2.1
  unfold fX9_isLetter_b16 at h
  refine lv_iconst (v := 0) hx hb dX9_isLetter_16 (by decide) ?_
  exact wX9_isLetter_b17 hC hG hR Kr _ _ _ _ _ h hM (lv_sub hl [] rfl)
def fX9_isLetter (x0 : Int32) (σ : Mem) : Option (Int32 × Mem) :=
  if x0 < 97 then fX9_isLetter_b16 σ
    else if 122 < x0 then fX9_isLetter_b16 σ
      else fX9_isLetter_b17 1 σ
set_option maxRecDepth 20000 in
theorem wX9_isLetter {r : Int32} {σ' : Mem} (hC : CallFix p m c cX9_isLetter 1 s args WALL RX9) (hG : GS D cy A s) (hR : 0 ≤ R.frames ∧ 0 ≤ R.locals) (Kr : KrZ p l e R s m args below meth c cX9_isLetter Q D cy ad A z r σ') (x0 : Int32) (σ : Mem) (H : Heap) (locs : List Loc) (ls : Array Slot) (h : fX9_isLetter x0 σ = some (r, σ')) (hM : MS D cy ad A s.heap z σ H locs) (hl : lv_has ls 1 [(0, .int x0)]) : W p l e R s m args below meth c H locs 0 0 Q (F0 m 0 ls []) := by
  have hx := hC.1
  have hb := hC.2.1
  unfold fX9_isLetter at h
  refine lv_iload_n hx hb dX9_isLetter_0 rfl (lv_at hl 0 rfl) ?_
  refine lv_bipush (v := 97) hx hb dX9_isLetter_1 (by decide) ?_
  refine lv_icmp_lt (tgt := 16) hx hb dX9_isLetter_3 (by decide) (fun c1 => ?_) (fun c1 => ?_)
  · rw [if_pos c1] at h
    exact wX9_isLetter_b16 hC hG hR Kr _ _ _ _ h hM (lv_sub hl [] rfl)
  · rw [if_neg c1] at h
    refine lv_iload_n hx hb dX9_isLetter_6 rfl (lv_at hl 0 rfl) ?_
    refine lv_bipush (v := 122) hx hb dX9_isLetter_7 (by decide) ?_
    refine lv_icmp_gt (tgt := 16) hx hb dX9_isLetter_9 (by decide) (fun c2 => ?_) (fun c2 => ?_)
    · rw [if_pos c2] at h
      exact wX9_isLetter_b16 hC hG hR Kr _ _ _ _ h hM (lv_sub hl [] rfl)
    · rw [if_neg c2] at h
      refine lv_iconst (v := 1) hx hb dX9_isLetter_12 (by decide) ?_
      refine lv_goto (tgt := 17) hx hb dX9_isLetter_13 (by decide) ?_
      exact wX9_isLetter_b17 hC hG hR Kr _ _ _ _ _ h hM (lv_sub hl [] rfl)
theorem cX9_isLetter_ok {l : Launch} {D : va_G} {cy : Nat → ClassId} {ad : Nat → Nat} {A : Nat → Prop} {z : Nat} {r : Int32} {σ' : Mem} {x0 : Int32} {σ : Mem} (h : fX9_isLetter x0 σ = some (r, σ')) : CtI l yX9_isLetter cX9_isLetter 1 (some .boolean) 0 [.int x0] D cy ad A z σ r σ' :=
  enterZ (own := RX9) (by decide) rfl (Nat.le_of_ble_eq_true rfl) rfl (fun p e s m below meth c Q ls hC hG hM Kr hl => wX9_isLetter hC hG ⟨Nat.le_refl _, Nat.le_refl _⟩ Kr _ _ _ _ _ h hM hl)
/-! X9_isPlan (I)Z -/
def fX9_isPlan_b17   (y0 : Int32) (σ : Mem) : Option (Int32 × Mem) :=
  if y0 = 0 ∨ y0 = 1 then some (y0, σ) else none
set_option maxRecDepth 20000 in
theorem wX9_isPlan_b17 {r : Int32} {σ' : Mem} (hC : CallFix p m c cX9_isPlan 2 s args WALL RX9) (hG : GS D cy A s) (hR : 0 ≤ R.frames ∧ 0 ≤ R.locals) (Kr : KrZ p l e R s m args below meth c cX9_isPlan Q D cy ad A z r σ')   (y0 : Int32) (σ : Mem) (H : Heap) (locs : List Loc) (ls : Array Slot) (h : fX9_isPlan_b17 y0 σ = some (r, σ')) (hM : MS D cy ad A s.heap z σ H locs) (hl : lv_has ls 2 []) : W p l e R s m args below meth c H locs 0 0 Q (F0 m 17 ls [.int y0]) := by
  have hx := hC.1
  have hb := hC.2.1
  unfold fX9_isPlan_b17 at h
  by_cases c1 : y0 = 0 ∨ y0 = 1
  · rw [if_pos c1] at h
    cases h
    exact Kr _ _ _ _ dX9_isPlan_17 (nar01 c1) hM
  · rw [if_neg c1] at h
    cases h
def fX9_isPlan_b16    (σ : Mem) : Option (Int32 × Mem) :=
  fX9_isPlan_b17 0 σ
set_option maxRecDepth 20000 in
theorem wX9_isPlan_b16 {r : Int32} {σ' : Mem} (hC : CallFix p m c cX9_isPlan 2 s args WALL RX9) (hG : GS D cy A s) (hR : 0 ≤ R.frames ∧ 0 ≤ R.locals) (Kr : KrZ p l e R s m args below meth c cX9_isPlan Q D cy ad A z r σ')    (σ : Mem) (H : Heap) (locs : List Loc) (ls : Array Slot) (h : fX9_isPlan_b16  σ = some (r, σ')) (hM : MS D cy ad A s.heap z σ H locs) (hl : lv_has ls 2 []) : W p l e R s m args below meth c H locs 0 0 Q (F0 m 16 ls []) := by
  have hx := hC.1
  have hb := hC.2.1
  unfold fX9_isPlan_b16 at h
  refine lv_iconst (v := 0) hx hb dX9_isPlan_16 (by decide) ?_
  exact wX9_isPlan_b17 hC hG hR Kr _ _ _ _ _ h hM (lv_sub hl [] rfl)
def fX9_isPlan (o0 : Nat) (x1 : Int32) (σ : Mem) : Option (Int32 × Mem) :=
  if x1 < 0 then fX9_isPlan_b16 σ
    else (fI σ 9 22 (some o0)).bind fun t2 =>
      if t2 ≤ x1 then fX9_isPlan_b16 σ
      else fX9_isPlan_b17 1 σ
set_option maxRecDepth 20000 in
theorem wX9_isPlan {r : Int32} {σ' : Mem} (hC : CallFix p m c cX9_isPlan 2 s args WALL RX9) (hG : GS D cy A s) (hR : 0 ≤ R.frames ∧ 0 ≤ R.locals) (Kr : KrZ p l e R s m args below meth c cX9_isPlan Q D cy ad A z r σ') (o0 : Nat) (x1 : Int32) (σ : Mem) (H : Heap) (locs : List Loc) (ls : Array Slot) (h : fX9_isPlan o0 x1 σ = some (r, σ')) (hM : MS D cy ad A s.heap z σ H locs) (hl : lv_has ls 2 [(0, va_rf (Option.map ad (some o0))), (1, .int x1)]) : W p l e R s m args below meth c H locs 0 0 Q (F0 m 0 ls []) := by
  have hx := hC.1
  have hb := hC.2.1
  unfold fX9_isPlan at h
  refine lv_iload_n hx hb dX9_isPlan_0 rfl (lv_at hl 1 rfl) ?_
  refine lv_if_lt (tgt := 16) hx hb dX9_isPlan_1 (by decide) (fun c1 => ?_) (fun c1 => ?_)
  · rw [if_pos c1] at h
    exact wX9_isPlan_b16 hC hG hR Kr _ _ _ _ h hM (lv_sub hl [] rfl)
  · rw [if_neg c1] at h
    refine lv_iload_n hx hb dX9_isPlan_4 rfl (lv_at hl 1 rfl) ?_
    refine lr_aload_n hx hb dX9_isPlan_5 rfl (lv_at hl 0 rfl) ?_
    obtain ⟨t2, e_t2, h⟩ := bn h
    refine gf_X9_205 hC hG hM e_t2 dX9_isPlan_6 ?_
    refine lv_icmp_ge (tgt := 16) hx hb dX9_isPlan_9 (by decide) (fun c3 => ?_) (fun c3 => ?_)
    · rw [if_pos c3] at h
      exact wX9_isPlan_b16 hC hG hR Kr _ _ _ _ h hM (lv_sub hl [] rfl)
    · rw [if_neg c3] at h
      refine lv_iconst (v := 1) hx hb dX9_isPlan_12 (by decide) ?_
      refine lv_goto (tgt := 17) hx hb dX9_isPlan_13 (by decide) ?_
      exact wX9_isPlan_b17 hC hG hR Kr _ _ _ _ _ h hM (lv_sub hl [] rfl)
theorem cX9_isPlan_ok {l : Launch} {D : va_G} {cy : Nat → ClassId} {ad : Nat → Nat} {A : Nat → Prop} {z : Nat} {r : Int32} {σ' : Mem} {o0 : Nat} {x1 : Int32} {σ : Mem} (h : fX9_isPlan o0 x1 σ = some (r, σ')) : CtI l yX9_isPlan cX9_isPlan 2 (some .boolean) 0 [.ref (ad o0), .int x1] D cy ad A z σ r σ' :=
  enterZ (own := RX9) (by decide) rfl (Nat.le_of_ble_eq_true rfl) rfl (fun p e s m below meth c Q ls hC hG hM Kr hl => wX9_isPlan hC hG ⟨Nat.le_refl _, Nat.le_refl _⟩ Kr _ _ _ _ _ _ h hM hl)
/-! X9_mayBegin (II)Z -/
def fX9_mayBegin_b25   (y0 : Int32) (σ : Mem) : Option (Int32 × Mem) :=
  if y0 = 0 ∨ y0 = 1 then some (y0, σ) else none
set_option maxRecDepth 20000 in
theorem wX9_mayBegin_b25 {r : Int32} {σ' : Mem} (hC : CallFix p m c cX9_mayBegin 3 s args WALL RX9) (hG : GS D cy A s) (hR : 0 ≤ R.frames ∧ 0 ≤ R.locals) (Kr : KrZ p l e R s m args below meth c cX9_mayBegin Q D cy ad A z r σ')   (y0 : Int32) (σ : Mem) (H : Heap) (locs : List Loc) (ls : Array Slot) (h : fX9_mayBegin_b25 y0 σ = some (r, σ')) (hM : MS D cy ad A s.heap z σ H locs) (hl : lv_has ls 3 []) : W p l e R s m args below meth c H locs 0 0 Q (F0 m 25 ls [.int y0]) := by
  have hx := hC.1
  have hb := hC.2.1
  unfold fX9_mayBegin_b25 at h
  by_cases c1 : y0 = 0 ∨ y0 = 1
  · rw [if_pos c1] at h
    cases h
    exact Kr _ _ _ _ dX9_mayBegin_25 (nar01 c1) hM
  · rw [if_neg c1] at h
    cases h
def fX9_mayBegin_b24    (σ : Mem) : Option (Int32 × Mem) :=
  fX9_mayBegin_b25 0 σ
set_option maxRecDepth 20000 in
theorem wX9_mayBegin_b24 {r : Int32} {σ' : Mem} (hC : CallFix p m c cX9_mayBegin 3 s args WALL RX9) (hG : GS D cy A s) (hR : 0 ≤ R.frames ∧ 0 ≤ R.locals) (Kr : KrZ p l e R s m args below meth c cX9_mayBegin Q D cy ad A z r σ')    (σ : Mem) (H : Heap) (locs : List Loc) (ls : Array Slot) (h : fX9_mayBegin_b24  σ = some (r, σ')) (hM : MS D cy ad A s.heap z σ H locs) (hl : lv_has ls 3 []) : W p l e R s m args below meth c H locs 0 0 Q (F0 m 24 ls []) := by
  have hx := hC.1
  have hb := hC.2.1
  unfold fX9_mayBegin_b24 at h
  refine lv_iconst (v := 0) hx hb dX9_mayBegin_24 (by decide) ?_
  exact wX9_mayBegin_b25 hC hG hR Kr _ _ _ _ _ h hM (lv_sub hl [] rfl)
def fX9_mayBegin (o0 : Nat) (x1 : Int32) (x2 : Int32) (σ : Mem) : Option (Int32 × Mem) :=
  (fR σ 9 14 (some o0)).bind fun t1 =>
    (aI σ 11 t1 x1).bind fun t2 =>
    if x2 < t2 then fX9_mayBegin_b24 σ
    else (fR σ 9 15 (some o0)).bind fun t4 =>
      (aI σ 11 t4 x1).bind fun t5 =>
      if t5 < x2 then fX9_mayBegin_b24 σ
      else fX9_mayBegin_b25 1 σ
set_option maxRecDepth 20000 in
theorem wX9_mayBegin {r : Int32} {σ' : Mem} (hC : CallFix p m c cX9_mayBegin 3 s args WALL RX9) (hG : GS D cy A s) (hR : 0 ≤ R.frames ∧ 0 ≤ R.locals) (Kr : KrZ p l e R s m args below meth c cX9_mayBegin Q D cy ad A z r σ') (o0 : Nat) (x1 : Int32) (x2 : Int32) (σ : Mem) (H : Heap) (locs : List Loc) (ls : Array Slot) (h : fX9_mayBegin o0 x1 x2 σ = some (r, σ')) (hM : MS D cy ad A s.heap z σ H locs) (hl : lv_has ls 3 [(0, va_rf (Option.map ad (some o0))), (1, .int x1), (2, .int x2)]) : W p l e R s m args below meth c H locs 0 0 Q (F0 m 0 ls []) := by
  have hx := hC.1
  have hb := hC.2.1
  unfold fX9_mayBegin at h
  refine lv_iload_n hx hb dX9_mayBegin_0 rfl (lv_at hl 2 rfl) ?_
  refine lr_aload_n hx hb dX9_mayBegin_1 rfl (lv_at hl 0 rfl) ?_
  obtain ⟨t1, e_t1, h⟩ := bn h
  refine gf_X9_23 hC hG hM e_t1 dX9_mayBegin_2 ?_
  refine lv_iload_n hx hb dX9_mayBegin_5 rfl (lv_at hl 1 rfl) ?_
  obtain ⟨t2, e_t2, h⟩ := bn h
  refine g_iald hx hb hG hM e_t2 dX9_mayBegin_6 ?_
  refine lv_icmp_lt (tgt := 24) hx hb dX9_mayBegin_7 (by decide) (fun c3 => ?_) (fun c3 => ?_)
  · rw [if_pos c3] at h
    exact wX9_mayBegin_b24 hC hG hR Kr _ _ _ _ h hM (lv_sub hl [] rfl)
  · rw [if_neg c3] at h
    refine lv_iload_n hx hb dX9_mayBegin_10 rfl (lv_at hl 2 rfl) ?_
    refine lr_aload_n hx hb dX9_mayBegin_11 rfl (lv_at hl 0 rfl) ?_
    obtain ⟨t4, e_t4, h⟩ := bn h
    refine gf_X9_26 hC hG hM e_t4 dX9_mayBegin_12 ?_
    refine lv_iload_n hx hb dX9_mayBegin_15 rfl (lv_at hl 1 rfl) ?_
    obtain ⟨t5, e_t5, h⟩ := bn h
    refine g_iald hx hb hG hM e_t5 dX9_mayBegin_16 ?_
    refine lv_icmp_gt (tgt := 24) hx hb dX9_mayBegin_17 (by decide) (fun c6 => ?_) (fun c6 => ?_)
    · rw [if_pos c6] at h
      exact wX9_mayBegin_b24 hC hG hR Kr _ _ _ _ h hM (lv_sub hl [] rfl)
    · rw [if_neg c6] at h
      refine lv_iconst (v := 1) hx hb dX9_mayBegin_20 (by decide) ?_
      refine lv_goto (tgt := 25) hx hb dX9_mayBegin_21 (by decide) ?_
      exact wX9_mayBegin_b25 hC hG hR Kr _ _ _ _ _ h hM (lv_sub hl [] rfl)
theorem cX9_mayBegin_ok {l : Launch} {D : va_G} {cy : Nat → ClassId} {ad : Nat → Nat} {A : Nat → Prop} {z : Nat} {r : Int32} {σ' : Mem} {o0 : Nat} {x1 : Int32} {x2 : Int32} {σ : Mem} (h : fX9_mayBegin o0 x1 x2 σ = some (r, σ')) : CtI l yX9_mayBegin cX9_mayBegin 3 (some .boolean) 0 [.ref (ad o0), .int x1, .int x2] D cy ad A z σ r σ' :=
  enterZ (own := RX9) (by decide) rfl (Nat.le_of_ble_eq_true rfl) rfl (fun p e s m below meth c Q ls hC hG hM Kr hl => wX9_mayBegin hC hG ⟨Nat.le_refl _, Nat.le_refl _⟩ Kr _ _ _ _ _ _ _ h hM hl)
/-! X9_partCost (II)J -/
def fX9_partCost_b114  (o0 : Nat) (x1 : Int32) (x3 : Int32) (x4 : Int64)  (σ : Mem) : Option (Int64 × Mem) :=
  (fR σ 9 21 (some o0)).bind fun t1 =>
    (aI σ 11 t1 x1).bind fun t2 =>
    some (x4 + (((x3 : Int32).toInt64) * ((t2 : Int32).toInt64)), σ)
set_option maxRecDepth 20000 in
theorem wX9_partCost_b114 {r : Int64} {σ' : Mem} (hC : CallFix p m c cX9_partCost 10 s args WALL RX9) (hG : GS D cy A s) (hR : 0 ≤ R.frames ∧ 0 ≤ R.locals) (Kr : KrL p l e R s m args below meth c cX9_partCost Q D cy ad A z r σ')  (o0 : Nat) (x1 : Int32) (x3 : Int32) (x4 : Int64)  (σ : Mem) (H : Heap) (locs : List Loc) (ls : Array Slot) (h : fX9_partCost_b114 o0 x1 x3 x4 σ = some (r, σ')) (hM : MS D cy ad A s.heap z σ H locs) (hl : lv_has ls 10 [(0, va_rf (Option.map ad (some o0))), (1, .int x1), (3, .int x3), (4, .long x4)]) : W p l e R s m args below meth c H locs 0 0 Q (F0 m 114 ls []) := by
  have hx := hC.1
  have hb := hC.2.1
  unfold fX9_partCost_b114 at h
  refine lv_lload hx hb dX9_partCost_114 (lv_at hl 3 rfl) ?_
  refine lv_iload_n hx hb dX9_partCost_116 rfl (lv_at hl 2 rfl) ?_
  refine lv_i2l hx hb dX9_partCost_117 rfl ?_
  refine lr_aload_n hx hb dX9_partCost_118 rfl (lv_at hl 0 rfl) ?_
  obtain ⟨t1, e_t1, h⟩ := bn h
  refine gf_X9_45 hC hG hM e_t1 dX9_partCost_119 ?_
  refine lv_iload_n hx hb dX9_partCost_122 rfl (lv_at hl 1 rfl) ?_
  obtain ⟨t2, e_t2, h⟩ := bn h
  refine g_iald hx hb hG hM e_t2 dX9_partCost_123 ?_
  refine lv_i2l hx hb dX9_partCost_124 rfl ?_
  refine lv_lmul hx hb dX9_partCost_125 ?_
  refine lv_ladd hx hb dX9_partCost_126 ?_
  obtain ⟨rfl, rfl⟩ := Prod.mk.inj (Option.some.inj h)
  exact Kr _ _ _ _ dX9_partCost_127 hM
def fX9_partCost_b67 (rc24 : Nat → Int32 → Int32 → Int64 → Int32 → Int32 → Mem → Option (Int64 × Mem)) (o0 : Nat) (x1 : Int32) (x3 : Int32) (x4 : Int64) (x7 : Int32) (y0 : Int32) (σ : Mem) : Option (Int64 × Mem) :=
  (fR σ 9 20 (some o0)).bind fun t1 =>
    (aI σ 11 t1 ((3 * x1) + x7)).bind fun t2 =>
    bd (x4 + (((y0 : Int32).toInt64) * ((t2 : Int32).toInt64))) fun t3 =>
    bd (x3 - y0) fun t4 =>
    (fR σ 9 19 (some o0)).bind fun t5 =>
    (aI σ 11 t5 ((3 * x1) + x7)).bind fun t6 =>
    bd (x7 + 1) fun t7 =>
    rc24 o0 x1 t4 t3 t6 t7 σ
set_option maxRecDepth 20000 in
theorem wX9_partCost_b67 {r : Int64} {σ' : Mem} (hC : CallFix p m c cX9_partCost 10 s args WALL RX9) (hG : GS D cy A s) (hR : 0 ≤ R.frames ∧ 0 ≤ R.locals) (Kr : KrL p l e R s m args below meth c cX9_partCost Q D cy ad A z r σ') {rc24 : Nat → Int32 → Int32 → Int64 → Int32 → Int32 → Mem → Option (Int64 × Mem)} (Kc24 : ∀ (o0 : Nat) (x1 : Int32) (x3 : Int32) (x4 : Int64) (x6 : Int32) (x7 : Int32) (τ : Mem) (H : Heap) (locs : List Loc) (ls : Array Slot), rc24 o0 x1 x3 x4 x6 x7 τ = some (r, σ') → MS D cy ad A s.heap z τ H locs → lv_has ls 10 [(0, va_rf (Option.map ad (some o0))), (1, .int x1), (3, .int x3), (4, .long x4), (6, .int x6), (7, .int x7)] → W p l e R s m args below meth c H locs 0 0 Q (F0 m 24 ls [])) (o0 : Nat) (x1 : Int32) (x3 : Int32) (x4 : Int64) (x7 : Int32) (y0 : Int32) (σ : Mem) (H : Heap) (locs : List Loc) (ls : Array Slot) (h : fX9_partCost_b67 rc24 o0 x1 x3 x4 x7 y0 σ = some (r, σ')) (hM : MS D cy ad A s.heap z σ H locs) (hl : lv_has ls 10 [(0, va_rf (Option.map ad (some o0))), (1, .int x1), (3, .int x3), (4, .long x4), (7, .int x7)]) : W p l e R s m args below meth c H locs 0 0 Q (F0 m 67 ls [.int y0]) := by
  have hx := hC.1
  have hb := hC.2.1
  unfold fX9_partCost_b67 at h
  refine lv_istore (lv' := [(9, .int y0), (0, va_rf (Option.map ad (some o0))), (1, .int x1), (3, .int x3), (4, .long x4), (7, .int x7)]) hx hb dX9_partCost_67 hl (by decide) (by first | rfl | simp [va_cat]) (fun ls hl => ?_)
  refine lv_lload hx hb dX9_partCost_69 (lv_at hl 4 rfl) ?_
  refine lv_iload hx hb dX9_partCost_71 (lv_at hl 0 rfl) ?_
  refine lv_i2l hx hb dX9_partCost_73 rfl ?_
  refine lr_aload_n hx hb dX9_partCost_74 rfl (lv_at hl 1 rfl) ?_
  obtain ⟨t1, e_t1, h⟩ := bn h
  refine gf_X9_42 hC hG hM e_t1 dX9_partCost_75 ?_
  refine lv_iconst (v := 3) hx hb dX9_partCost_78 (by decide) ?_
  refine lv_iload_n hx hb dX9_partCost_79 rfl (lv_at hl 2 rfl) ?_
  refine lv_imul hx hb dX9_partCost_80 ?_
  refine lv_iload hx hb dX9_partCost_81 (lv_at hl 5 rfl) ?_
  refine lv_iadd hx hb dX9_partCost_83 ?_
  obtain ⟨t2, e_t2, h⟩ := bn h
  refine g_iald hx hb hG hM e_t2 dX9_partCost_84 ?_
  refine lv_i2l hx hb dX9_partCost_85 rfl ?_
  refine lv_lmul hx hb dX9_partCost_86 ?_
  refine lv_ladd hx hb dX9_partCost_87 ?_
  obtain ⟨t3, e_t3, h⟩ := bd_elim h
  refine lr_nml e_t3 ?_
  refine lv_lstore (lv' := [(4, .long t3), (9, .int y0), (0, va_rf (Option.map ad (some o0))), (1, .int x1), (3, .int x3), (7, .int x7)]) hx hb dX9_partCost_88 hl (by decide) (by first | rfl | simp [va_cat]) (fun ls hl => ?_)
  refine lv_iload_n hx hb dX9_partCost_90 rfl (lv_at hl 4 rfl) ?_
  refine lv_iload hx hb dX9_partCost_91 (lv_at hl 1 rfl) ?_
  refine lv_isub hx hb dX9_partCost_93 ?_
  obtain ⟨t4, e_t4, h⟩ := bd_elim h
  refine lr_nmi e_t4 ?_
  refine lv_istore_n (lv' := [(3, .int t4), (4, .long t3), (9, .int y0), (0, va_rf (Option.map ad (some o0))), (1, .int x1), (7, .int x7)]) hx hb dX9_partCost_94 rfl hl (by decide) (by first | rfl | simp [va_cat]) (fun ls hl => ?_)
  refine lr_aload_n hx hb dX9_partCost_95 rfl (lv_at hl 3 rfl) ?_
  obtain ⟨t5, e_t5, h⟩ := bn h
  refine gf_X9_39 hC hG hM e_t5 dX9_partCost_96 ?_
  refine lv_iconst (v := 3) hx hb dX9_partCost_99 (by decide) ?_
  refine lv_iload_n hx hb dX9_partCost_100 rfl (lv_at hl 4 rfl) ?_
  refine lv_imul hx hb dX9_partCost_101 ?_
  refine lv_iload hx hb dX9_partCost_102 (lv_at hl 5 rfl) ?_
  refine lv_iadd hx hb dX9_partCost_104 ?_
  obtain ⟨t6, e_t6, h⟩ := bn h
  refine g_iald hx hb hG hM e_t6 dX9_partCost_105 ?_
  refine lv_istore (lv' := [(6, .int t6), (3, .int t4), (4, .long t3), (9, .int y0), (0, va_rf (Option.map ad (some o0))), (1, .int x1), (7, .int x7)]) hx hb dX9_partCost_106 hl (by decide) (by first | rfl | simp [va_cat]) (fun ls hl => ?_)
  obtain ⟨t7, e_t7, h⟩ := bd_elim h
  refine lv_iinc (v := t7) (lv' := [(7, .int t7), (6, .int t6), (3, .int t4), (4, .long t3), (9, .int y0), (0, va_rf (Option.map ad (some o0))), (1, .int x1)]) hx hb dX9_partCost_108 hl (k := 6) rfl (by rw [e_t7]; rfl) (by decide) (by first | rfl | simp [va_cat]) (fun ls hl => ?_)
  refine lv_goto (tgt := 24) hx hb dX9_partCost_111 (by decide) ?_
  exact Kc24 _ _ _ _ _ _ _ _ _ _ h hM (lv_sub hl [5, 6, 2, 3, 1, 0] rfl)
def fX9_partCost_b24  : Nat → Nat → Int32 → Int32 → Int64 → Int32 → Int32 → Mem → Option (Int64 × Mem)
  | 0, _, _, _, _, _, _, _ => none
  | n + 1, o0, x1, x3, x4, x6, x7, σ =>
    (fR σ 9 18 (some o0)).bind fun t1 =>
      (aI σ 11 t1 x1).bind fun t2 =>
      if t2 ≤ x7 then fX9_partCost_b114 o0 x1 x3 x4 σ
      else if x3 ≤ 0 then fX9_partCost_b114 o0 x1 x3 x4 σ
        else (fR σ 9 19 (some o0)).bind fun t5 =>
          (aI σ 11 t5 ((3 * x1) + x7)).bind fun t6 =>
          bd (t6 - x6) fun t7 =>
          if t7 ≤ x3 then fX9_partCost_b67 (fX9_partCost_b24 n) o0 x1 x3 x4 x7 t7 σ
          else fX9_partCost_b67 (fX9_partCost_b24 n) o0 x1 x3 x4 x7 x3 σ
set_option maxRecDepth 20000 in
theorem wX9_partCost_b24 {r : Int64} {σ' : Mem} (hC : CallFix p m c cX9_partCost 10 s args WALL RX9) (hG : GS D cy A s) (hR : 0 ≤ R.frames ∧ 0 ≤ R.locals) (Kr : KrL p l e R s m args below meth c cX9_partCost Q D cy ad A z r σ')  : ∀ (n : Nat) (o0 : Nat) (x1 : Int32) (x3 : Int32) (x4 : Int64) (x6 : Int32) (x7 : Int32)  (σ : Mem) (H : Heap) (locs : List Loc) (ls : Array Slot), fX9_partCost_b24 n o0 x1 x3 x4 x6 x7 σ = some (r, σ') → MS D cy ad A s.heap z σ H locs → lv_has ls 10 [(0, va_rf (Option.map ad (some o0))), (1, .int x1), (3, .int x3), (4, .long x4), (6, .int x6), (7, .int x7)] → W p l e R s m args below meth c H locs 0 0 Q (F0 m 24 ls []) := by
  have hx := hC.1
  have hb := hC.2.1
  intro n
  induction n with
  | zero =>
    intro o0 x1 x3 x4 x6 x7 σ H locs ls h
    cases h
  | succ n ih =>
    intro o0 x1 x3 x4 x6 x7 σ H locs ls h hM hl
    rw [fX9_partCost_b24] at h
    refine lv_iload hx hb dX9_partCost_24 (lv_at hl 5 rfl) ?_
    refine lr_aload_n hx hb dX9_partCost_26 rfl (lv_at hl 0 rfl) ?_
    obtain ⟨t1, e_t1, h⟩ := bn h
    refine gf_X9_36 hC hG hM e_t1 dX9_partCost_27 ?_
    refine lv_iload_n hx hb dX9_partCost_30 rfl (lv_at hl 1 rfl) ?_
    obtain ⟨t2, e_t2, h⟩ := bn h
    refine g_iald hx hb hG hM e_t2 dX9_partCost_31 ?_
    refine lv_icmp_ge (tgt := 114) hx hb dX9_partCost_32 (by decide) (fun c3 => ?_) (fun c3 => ?_)
    · rw [if_pos c3] at h
      exact wX9_partCost_b114 hC hG hR Kr _ _ _ _ _ _ _ _ h hM (lv_sub hl [0, 1, 2, 3] rfl)
    · rw [if_neg c3] at h
      refine lv_iload_n hx hb dX9_partCost_35 rfl (lv_at hl 2 rfl) ?_
      refine lv_if_le (tgt := 114) hx hb dX9_partCost_36 (by decide) (fun c4 => ?_) (fun c4 => ?_)
      · rw [if_pos c4] at h
        exact wX9_partCost_b114 hC hG hR Kr _ _ _ _ _ _ _ _ h hM (lv_sub hl [0, 1, 2, 3] rfl)
      · rw [if_neg c4] at h
        refine lr_aload_n hx hb dX9_partCost_39 rfl (lv_at hl 0 rfl) ?_
        obtain ⟨t5, e_t5, h⟩ := bn h
        refine gf_X9_39 hC hG hM e_t5 dX9_partCost_40 ?_
        refine lv_iconst (v := 3) hx hb dX9_partCost_43 (by decide) ?_
        refine lv_iload_n hx hb dX9_partCost_44 rfl (lv_at hl 1 rfl) ?_
        refine lv_imul hx hb dX9_partCost_45 ?_
        refine lv_iload hx hb dX9_partCost_46 (lv_at hl 5 rfl) ?_
        refine lv_iadd hx hb dX9_partCost_48 ?_
        obtain ⟨t6, e_t6, h⟩ := bn h
        refine g_iald hx hb hG hM e_t6 dX9_partCost_49 ?_
        refine lv_iload hx hb dX9_partCost_50 (lv_at hl 4 rfl) ?_
        refine lv_isub hx hb dX9_partCost_52 ?_
        obtain ⟨t7, e_t7, h⟩ := bd_elim h
        refine lr_nmi e_t7 ?_
        refine lv_istore (lv' := [(8, .int t7), (0, va_rf (Option.map ad (some o0))), (1, .int x1), (3, .int x3), (4, .long x4), (6, .int x6), (7, .int x7)]) hx hb dX9_partCost_53 hl (by decide) (by first | rfl | simp [va_cat]) (fun ls hl => ?_)
        refine lv_iload_n hx hb dX9_partCost_55 rfl (lv_at hl 3 rfl) ?_
        refine lv_iload hx hb dX9_partCost_56 (lv_at hl 0 rfl) ?_
        refine lv_icmp_ge (tgt := 65) hx hb dX9_partCost_58 (by decide) (fun c8 => ?_) (fun c8 => ?_)
        · rw [if_pos c8] at h
          refine lv_iload hx hb dX9_partCost_65 (lv_at hl 0 rfl) ?_
          exact wX9_partCost_b67 hC hG hR Kr ih _ _ _ _ _ _ _ _ _ _ h hM (lv_sub hl [1, 2, 3, 4, 6] rfl)
        · rw [if_neg c8] at h
          refine lv_iload_n hx hb dX9_partCost_61 rfl (lv_at hl 3 rfl) ?_
          refine lv_goto (tgt := 67) hx hb dX9_partCost_62 (by decide) ?_
          exact wX9_partCost_b67 hC hG hR Kr ih _ _ _ _ _ _ _ _ _ _ h hM (lv_sub hl [1, 2, 3, 4, 6] rfl)
def fX9_partCost (o0 : Nat) (x1 : Int32) (x2 : Int32) (σ : Mem) : Option (Int64 × Mem) :=
  (fR σ 9 17 (some o0)).bind fun t1 =>
    (aI σ 11 t1 x1).bind fun t2 =>
    bd (x2 - t2) fun t3 =>
    if 0 < t3 then fX9_partCost_b24 FU o0 x1 t3 0 0 0 σ
    else some (0, σ)
set_option maxRecDepth 20000 in
theorem wX9_partCost {r : Int64} {σ' : Mem} (hC : CallFix p m c cX9_partCost 10 s args WALL RX9) (hG : GS D cy A s) (hR : 0 ≤ R.frames ∧ 0 ≤ R.locals) (Kr : KrL p l e R s m args below meth c cX9_partCost Q D cy ad A z r σ') (o0 : Nat) (x1 : Int32) (x2 : Int32) (σ : Mem) (H : Heap) (locs : List Loc) (ls : Array Slot) (h : fX9_partCost o0 x1 x2 σ = some (r, σ')) (hM : MS D cy ad A s.heap z σ H locs) (hl : lv_has ls 10 [(0, va_rf (Option.map ad (some o0))), (1, .int x1), (2, .int x2)]) : W p l e R s m args below meth c H locs 0 0 Q (F0 m 0 ls []) := by
  have hx := hC.1
  have hb := hC.2.1
  unfold fX9_partCost at h
  refine lv_iload_n hx hb dX9_partCost_0 rfl (lv_at hl 2 rfl) ?_
  refine lr_aload_n hx hb dX9_partCost_1 rfl (lv_at hl 0 rfl) ?_
  obtain ⟨t1, e_t1, h⟩ := bn h
  refine gf_X9_33 hC hG hM e_t1 dX9_partCost_2 ?_
  refine lv_iload_n hx hb dX9_partCost_5 rfl (lv_at hl 1 rfl) ?_
  obtain ⟨t2, e_t2, h⟩ := bn h
  refine g_iald hx hb hG hM e_t2 dX9_partCost_6 ?_
  refine lv_isub hx hb dX9_partCost_7 ?_
  obtain ⟨t3, e_t3, h⟩ := bd_elim h
  refine lr_nmi e_t3 ?_
  refine lv_istore_n (lv' := [(3, .int t3), (0, va_rf (Option.map ad (some o0))), (1, .int x1), (2, .int x2)]) hx hb dX9_partCost_8 rfl hl (by decide) (by first | rfl | simp [va_cat]) (fun ls hl => ?_)
  refine lv_iload_n hx hb dX9_partCost_9 rfl (lv_at hl 0 rfl) ?_
  refine lv_if_gt (tgt := 15) hx hb dX9_partCost_10 (by decide) (fun c4 => ?_) (fun c4 => ?_)
  · rw [if_pos c4] at h
    refine lv_lconst (v := 0) hx hb dX9_partCost_15 (by decide) ?_
    refine lv_lstore (lv' := [(4, .long 0), (3, .int t3), (0, va_rf (Option.map ad (some o0))), (1, .int x1), (2, .int x2)]) hx hb dX9_partCost_16 hl (by decide) (by first | rfl | simp [va_cat]) (fun ls hl => ?_)
    refine lv_iconst (v := 0) hx hb dX9_partCost_18 (by decide) ?_
    refine lv_istore (lv' := [(6, .int 0), (4, .long 0), (3, .int t3), (0, va_rf (Option.map ad (some o0))), (1, .int x1), (2, .int x2)]) hx hb dX9_partCost_19 hl (by decide) (by first | rfl | simp [va_cat]) (fun ls hl => ?_)
    refine lv_iconst (v := 0) hx hb dX9_partCost_21 (by decide) ?_
    refine lv_istore (lv' := [(7, .int 0), (6, .int 0), (4, .long 0), (3, .int t3), (0, va_rf (Option.map ad (some o0))), (1, .int x1), (2, .int x2)]) hx hb dX9_partCost_22 hl (by decide) (by first | rfl | simp [va_cat]) (fun ls hl => ?_)
    exact wX9_partCost_b24 hC hG hR Kr FU _ _ _ _ _ _ _ _ _ _ h hM (lv_sub hl [4, 5, 3, 2, 1, 0] rfl)
  · rw [if_neg c4] at h
    refine lv_lconst (v := 0) hx hb dX9_partCost_13 (by decide) ?_
    obtain ⟨rfl, rfl⟩ := Prod.mk.inj (Option.some.inj h)
    exact Kr _ _ _ _ dX9_partCost_14 hM
theorem cX9_partCost_ok {l : Launch} {D : va_G} {cy : Nat → ClassId} {ad : Nat → Nat} {A : Nat → Prop} {z : Nat} {r : Int64} {σ' : Mem} {o0 : Nat} {x1 : Int32} {x2 : Int32} {σ : Mem} (h : fX9_partCost o0 x1 x2 σ = some (r, σ')) : CtL l yX9_partCost cX9_partCost 10 (some .long) 0 [.ref (ad o0), .int x1, .int x2] D cy ad A z σ r σ' :=
  enterL (own := RX9) (by decide) rfl (Nat.le_of_ble_eq_true rfl) rfl (fun p e s m below meth c Q ls hC hG hM Kr hl => wX9_partCost hC hG ⟨Nat.le_refl _, Nat.le_refl _⟩ Kr _ _ _ _ _ _ _ h hM hl)
/-! X9_refuse ()I -/
def fX9_refuse (o0 : Nat) (σ : Mem) : Option (Int32 × Mem) :=
  (pI σ 9 0 (some o0) 1).bind fun m1 =>
    some (0, m1)
set_option maxRecDepth 20000 in
theorem wX9_refuse {r : Int32} {σ' : Mem} (hC : CallFix p m c cX9_refuse 1 s args WALL RX9) (hG : GS D cy A s) (hR : 0 ≤ R.frames ∧ 0 ≤ R.locals) (Kr : KrI p l e R s m args below meth c cX9_refuse Q D cy ad A z r σ') (o0 : Nat) (σ : Mem) (H : Heap) (locs : List Loc) (ls : Array Slot) (h : fX9_refuse o0 σ = some (r, σ')) (hM : MS D cy ad A s.heap z σ H locs) (hl : lv_has ls 1 [(0, va_rf (Option.map ad (some o0)))]) : W p l e R s m args below meth c H locs 0 0 Q (F0 m 0 ls []) := by
  have hx := hC.1
  have hb := hC.2.1
  unfold fX9_refuse at h
  refine lr_aload_n hx hb dX9_refuse_0 rfl (lv_at hl 0 rfl) ?_
  refine lv_iconst (v := 1) hx hb dX9_refuse_1 (by decide) ?_
  obtain ⟨m1, e_m1, h⟩ := bn h
  refine pf_X9_87 hC hG hM e_m1 dX9_refuse_2 (fun H locs hM => ?_)
  refine lv_iconst (v := 0) hx hb dX9_refuse_5 (by decide) ?_
  obtain ⟨rfl, rfl⟩ := Prod.mk.inj (Option.some.inj h)
  exact Kr _ _ _ _ dX9_refuse_6 hM
theorem cX9_refuse_ok {l : Launch} {D : va_G} {cy : Nat → ClassId} {ad : Nat → Nat} {A : Nat → Prop} {z : Nat} {r : Int32} {σ' : Mem} {o0 : Nat} {σ : Mem} (h : fX9_refuse o0 σ = some (r, σ')) : CtI l yX9_refuse cX9_refuse 1 (some .int) 0 [.ref (ad o0)] D cy ad A z σ r σ' :=
  enterI (own := RX9) (by decide) rfl (Nat.le_of_ble_eq_true rfl) rfl (fun p e s m below meth c Q ls hC hG hM Kr hl => wX9_refuse hC hG ⟨Nat.le_refl _, Nat.le_refl _⟩ Kr _ _ _ _ _ h hM hl)
/-! X9_state (II)I -/
def fX9_state (x0 : Int32) (x1 : Int32) (σ : Mem) : Option (Int32 × Mem) :=
  some ((25 * x0) + x1, σ)
set_option maxRecDepth 20000 in
theorem wX9_state {r : Int32} {σ' : Mem} (hC : CallFix p m c cX9_state 2 s args WALL RX9) (hG : GS D cy A s) (hR : 0 ≤ R.frames ∧ 0 ≤ R.locals) (Kr : KrI p l e R s m args below meth c cX9_state Q D cy ad A z r σ') (x0 : Int32) (x1 : Int32) (σ : Mem) (H : Heap) (locs : List Loc) (ls : Array Slot) (h : fX9_state x0 x1 σ = some (r, σ')) (hM : MS D cy ad A s.heap z σ H locs) (hl : lv_has ls 2 [(0, .int x0), (1, .int x1)]) : W p l e R s m args below meth c H locs 0 0 Q (F0 m 0 ls []) := by
  have hx := hC.1
  have hb := hC.2.1
  unfold fX9_state at h
  refine lv_bipush (v := 25) hx hb dX9_state_0 (by decide) ?_
  refine lv_iload_n hx hb dX9_state_2 rfl (lv_at hl 0 rfl) ?_
  refine lv_imul hx hb dX9_state_3 ?_
  refine lv_iload_n hx hb dX9_state_4 rfl (lv_at hl 1 rfl) ?_
  refine lv_iadd hx hb dX9_state_5 ?_
  obtain ⟨rfl, rfl⟩ := Prod.mk.inj (Option.some.inj h)
  exact Kr _ _ _ _ dX9_state_6 hM
theorem cX9_state_ok {l : Launch} {D : va_G} {cy : Nat → ClassId} {ad : Nat → Nat} {A : Nat → Prop} {z : Nat} {r : Int32} {σ' : Mem} {x0 : Int32} {x1 : Int32} {σ : Mem} (h : fX9_state x0 x1 σ = some (r, σ')) : CtI l yX9_state cX9_state 2 (some .int) 0 [.int x0, .int x1] D cy ad A z σ r σ' :=
  enterI (own := RX9) (by decide) rfl (Nat.le_of_ble_eq_true rfl) rfl (fun p e s m below meth c Q ls hC hG hM Kr hl => wX9_state hC hG ⟨Nat.le_refl _, Nat.le_refl _⟩ Kr _ _ _ _ _ _ h hM hl)
/-! X9_thrown ()I -/
def fX9_thrown (o0 : Nat) (σ : Mem) : Option (Int32 × Mem) :=
  (fI σ 9 0 (some o0)).bind fun t1 =>
    some (t1, σ)
set_option maxRecDepth 20000 in
theorem wX9_thrown {r : Int32} {σ' : Mem} (hC : CallFix p m c cX9_thrown 1 s args WALL RX9) (hG : GS D cy A s) (hR : 0 ≤ R.frames ∧ 0 ≤ R.locals) (Kr : KrI p l e R s m args below meth c cX9_thrown Q D cy ad A z r σ') (o0 : Nat) (σ : Mem) (H : Heap) (locs : List Loc) (ls : Array Slot) (h : fX9_thrown o0 σ = some (r, σ')) (hM : MS D cy ad A s.heap z σ H locs) (hl : lv_has ls 1 [(0, va_rf (Option.map ad (some o0)))]) : W p l e R s m args below meth c H locs 0 0 Q (F0 m 0 ls []) := by
  have hx := hC.1
  have hb := hC.2.1
  unfold fX9_thrown at h
  refine lr_aload_n hx hb dX9_thrown_0 rfl (lv_at hl 0 rfl) ?_
  obtain ⟨t1, e_t1, h⟩ := bn h
  refine gf_X9_87 hC hG hM e_t1 dX9_thrown_1 ?_
  obtain ⟨rfl, rfl⟩ := Prod.mk.inj (Option.some.inj h)
  exact Kr _ _ _ _ dX9_thrown_4 hM
theorem cX9_thrown_ok {l : Launch} {D : va_G} {cy : Nat → ClassId} {ad : Nat → Nat} {A : Nat → Prop} {z : Nat} {r : Int32} {σ' : Mem} {o0 : Nat} {σ : Mem} (h : fX9_thrown o0 σ = some (r, σ')) : CtI l yX9_thrown cX9_thrown 1 (some .int) 0 [.ref (ad o0)] D cy ad A z σ r σ' :=
  enterI (own := RX9) (by decide) rfl (Nat.le_of_ble_eq_true rfl) rfl (fun p e s m below meth c Q ls hC hG hM Kr hl => wX9_thrown hC hG ⟨Nat.le_refl _, Nat.le_refl _⟩ Kr _ _ _ _ _ h hM hl)
/-! X9_turn ()V -/
def fX9_turn_b72    (σ : Mem) : Option (Mem) :=
  some σ
set_option maxRecDepth 20000 in
theorem wX9_turn_b72 {σ' : Mem} (hC : CallFix p m c cX9_turn 3 s args WALL RX9) (hG : GS D cy A s) (hR : 0 ≤ R.frames ∧ 0 ≤ R.locals) (Kr : KrV p l e R s m args below meth c cX9_turn Q D cy ad A z () σ')    (σ : Mem) (H : Heap) (locs : List Loc) (ls : Array Slot) (h : fX9_turn_b72  σ = some σ') (hM : MS D cy ad A s.heap z σ H locs) (hl : lv_has ls 3 []) : W p l e R s m args below meth c H locs 0 0 Q (F0 m 72 ls []) := by
  have hx := hC.1
  have hb := hC.2.1
  unfold fX9_turn_b72 at h
  cases h
  exact Kr _ _ _ _ dX9_turn_72 hM
def fX9_turn_b66 (rc2 : Nat → Int32 → Mem → Option (Mem)) (o0 : Nat) (x1 : Int32)  (σ : Mem) : Option (Mem) :=
  bd (x1 + 1) fun t1 =>
    rc2 o0 t1 σ
set_option maxRecDepth 20000 in
theorem wX9_turn_b66 {σ' : Mem} (hC : CallFix p m c cX9_turn 3 s args WALL RX9) (hG : GS D cy A s) (hR : 0 ≤ R.frames ∧ 0 ≤ R.locals) (Kr : KrV p l e R s m args below meth c cX9_turn Q D cy ad A z () σ') {rc2 : Nat → Int32 → Mem → Option (Mem)} (Kc2 : ∀ (o0 : Nat) (x1 : Int32) (τ : Mem) (H : Heap) (locs : List Loc) (ls : Array Slot), rc2 o0 x1 τ = some σ' → MS D cy ad A s.heap z τ H locs → lv_has ls 3 [(0, va_rf (Option.map ad (some o0))), (1, .int x1)] → W p l e R s m args below meth c H locs 0 0 Q (F0 m 2 ls [])) (o0 : Nat) (x1 : Int32)  (σ : Mem) (H : Heap) (locs : List Loc) (ls : Array Slot) (h : fX9_turn_b66 rc2 o0 x1 σ = some σ') (hM : MS D cy ad A s.heap z σ H locs) (hl : lv_has ls 3 [(0, va_rf (Option.map ad (some o0))), (1, .int x1)]) : W p l e R s m args below meth c H locs 0 0 Q (F0 m 66 ls []) := by
  have hx := hC.1
  have hb := hC.2.1
  unfold fX9_turn_b66 at h
  obtain ⟨t1, e_t1, h⟩ := bd_elim h
  refine lv_iinc (v := t1) (lv' := [(1, .int t1), (0, va_rf (Option.map ad (some o0)))]) hx hb dX9_turn_66 hl (k := 1) rfl (by rw [e_t1]; rfl) (by decide) (by first | rfl | simp [va_cat]) (fun ls hl => ?_)
  refine lv_goto (tgt := 2) hx hb dX9_turn_69 (by decide) ?_
  exact Kc2 _ _ _ _ _ _ h hM (lv_sub hl [1, 0] rfl)
def fX9_turn_b32 (rc2 : Nat → Int32 → Mem → Option (Mem)) : Nat → Nat → Int32 → Int32 → Mem → Option (Mem)
  | 0, _, _, _, _ => none
  | n + 1, o0, x1, x2, σ =>
    if 24 ≤ x2 then fX9_turn_b66 rc2 o0 x1 σ
      else (fR σ 9 31 (some o0)).bind fun t2 =>
        (fR σ 9 32 (some o0)).bind fun t3 =>
        (aI σ 11 t3 ((24 * x1) + x2)).bind fun t4 =>
        (wI σ 11 t2 ((24 * x1) + x2) t4).bind fun m5 =>
        bd (x2 + 1) fun t6 =>
        (fX9_turn_b32 rc2 n) o0 x1 t6 m5
set_option maxRecDepth 20000 in
theorem wX9_turn_b32 {σ' : Mem} (hC : CallFix p m c cX9_turn 3 s args WALL RX9) (hG : GS D cy A s) (hR : 0 ≤ R.frames ∧ 0 ≤ R.locals) (Kr : KrV p l e R s m args below meth c cX9_turn Q D cy ad A z () σ') {rc2 : Nat → Int32 → Mem → Option (Mem)} (Kc2 : ∀ (o0 : Nat) (x1 : Int32) (τ : Mem) (H : Heap) (locs : List Loc) (ls : Array Slot), rc2 o0 x1 τ = some σ' → MS D cy ad A s.heap z τ H locs → lv_has ls 3 [(0, va_rf (Option.map ad (some o0))), (1, .int x1)] → W p l e R s m args below meth c H locs 0 0 Q (F0 m 2 ls [])) : ∀ (n : Nat) (o0 : Nat) (x1 : Int32) (x2 : Int32)  (σ : Mem) (H : Heap) (locs : List Loc) (ls : Array Slot), fX9_turn_b32 rc2 n o0 x1 x2 σ = some σ' → MS D cy ad A s.heap z σ H locs → lv_has ls 3 [(0, va_rf (Option.map ad (some o0))), (1, .int x1), (2, .int x2)] → W p l e R s m args below meth c H locs 0 0 Q (F0 m 32 ls []) := by
  have hx := hC.1
  have hb := hC.2.1
  intro n
  induction n with
  | zero =>
    intro o0 x1 x2 σ H locs ls h
    cases h
  | succ n ih =>
    intro o0 x1 x2 σ H locs ls h hM hl
    rw [fX9_turn_b32] at h
    refine lv_iload_n hx hb dX9_turn_32 rfl (lv_at hl 2 rfl) ?_
    refine lv_bipush (v := 24) hx hb dX9_turn_33 (by decide) ?_
    refine lv_icmp_ge (tgt := 66) hx hb dX9_turn_35 (by decide) (fun c1 => ?_) (fun c1 => ?_)
    · rw [if_pos c1] at h
      exact wX9_turn_b66 hC hG hR Kr Kc2 _ _ _ _ _ _ h hM (lv_sub hl [0, 1] rfl)
    · rw [if_neg c1] at h
      refine lr_aload_n hx hb dX9_turn_38 rfl (lv_at hl 0 rfl) ?_
      obtain ⟨t2, e_t2, h⟩ := bn h
      refine gf_X9_60 hC hG hM e_t2 dX9_turn_39 ?_
      refine lv_bipush (v := 24) hx hb dX9_turn_42 (by decide) ?_
      refine lv_iload_n hx hb dX9_turn_44 rfl (lv_at hl 1 rfl) ?_
      refine lv_imul hx hb dX9_turn_45 ?_
      refine lv_iload_n hx hb dX9_turn_46 rfl (lv_at hl 2 rfl) ?_
      refine lv_iadd hx hb dX9_turn_47 ?_
      refine lr_aload_n hx hb dX9_turn_48 rfl (lv_at hl 0 rfl) ?_
      obtain ⟨t3, e_t3, h⟩ := bn h
      refine gf_X9_63 hC hG hM e_t3 dX9_turn_49 ?_
      refine lv_bipush (v := 24) hx hb dX9_turn_52 (by decide) ?_
      refine lv_iload_n hx hb dX9_turn_54 rfl (lv_at hl 1 rfl) ?_
      refine lv_imul hx hb dX9_turn_55 ?_
      refine lv_iload_n hx hb dX9_turn_56 rfl (lv_at hl 2 rfl) ?_
      refine lv_iadd hx hb dX9_turn_57 ?_
      obtain ⟨t4, e_t4, h⟩ := bn h
      refine g_iald hx hb hG hM e_t4 dX9_turn_58 ?_
      obtain ⟨m5, e_m5, h⟩ := bn h
      refine g_iast hx hb hG hM e_m5 dX9_turn_59 (fun H locs hM => ?_)
      obtain ⟨t6, e_t6, h⟩ := bd_elim h
      refine lv_iinc (v := t6) (lv' := [(2, .int t6), (0, va_rf (Option.map ad (some o0))), (1, .int x1)]) hx hb dX9_turn_60 hl (k := 2) rfl (by rw [e_t6]; rfl) (by decide) (by first | rfl | simp [va_cat]) (fun ls hl => ?_)
      refine lv_goto (tgt := 32) hx hb dX9_turn_63 (by decide) ?_
      exact ih _ _ _ _ _ _ _ h hM (lv_sub hl [1, 2, 0] rfl)
def fX9_turn_b2  : Nat → Nat → Int32 → Mem → Option (Mem)
  | 0, _, _, _ => none
  | n + 1, o0, x1, σ =>
    if 250 ≤ x1 then fX9_turn_b72 σ
      else (fR σ 9 29 (some o0)).bind fun t2 =>
        (fR σ 9 30 (some o0)).bind fun t3 =>
        (aJ σ 12 t3 x1).bind fun t4 =>
        (wJ σ 12 t2 x1 t4).bind fun m5 =>
        (fR m5 9 30 (some o0)).bind fun t6 =>
        (wJ m5 12 t6 x1 1000000000000000).bind fun m7 =>
        fX9_turn_b32 (fX9_turn_b2 n) FU o0 x1 0 m7
set_option maxRecDepth 20000 in
theorem wX9_turn_b2 {σ' : Mem} (hC : CallFix p m c cX9_turn 3 s args WALL RX9) (hG : GS D cy A s) (hR : 0 ≤ R.frames ∧ 0 ≤ R.locals) (Kr : KrV p l e R s m args below meth c cX9_turn Q D cy ad A z () σ')  : ∀ (n : Nat) (o0 : Nat) (x1 : Int32)  (σ : Mem) (H : Heap) (locs : List Loc) (ls : Array Slot), fX9_turn_b2 n o0 x1 σ = some σ' → MS D cy ad A s.heap z σ H locs → lv_has ls 3 [(0, va_rf (Option.map ad (some o0))), (1, .int x1)] → W p l e R s m args below meth c H locs 0 0 Q (F0 m 2 ls []) := by
  have hx := hC.1
  have hb := hC.2.1
  intro n
  induction n with
  | zero =>
    intro o0 x1 σ H locs ls h
    cases h
  | succ n ih =>
    intro o0 x1 σ H locs ls h hM hl
    rw [fX9_turn_b2] at h
    refine lv_iload_n hx hb dX9_turn_2 rfl (lv_at hl 1 rfl) ?_
    refine lv_sipush (v := 250) hx hb dX9_turn_3 (by decide) ?_
    refine lv_icmp_ge (tgt := 72) hx hb dX9_turn_6 (by decide) (fun c1 => ?_) (fun c1 => ?_)
    · rw [if_pos c1] at h
      exact wX9_turn_b72 hC hG hR Kr _ _ _ _ h hM (lv_sub hl [] rfl)
    · rw [if_neg c1] at h
      refine lr_aload_n hx hb dX9_turn_9 rfl (lv_at hl 0 rfl) ?_
      obtain ⟨t2, e_t2, h⟩ := bn h
      refine gf_X9_54 hC hG hM e_t2 dX9_turn_10 ?_
      refine lv_iload_n hx hb dX9_turn_13 rfl (lv_at hl 1 rfl) ?_
      refine lr_aload_n hx hb dX9_turn_14 rfl (lv_at hl 0 rfl) ?_
      obtain ⟨t3, e_t3, h⟩ := bn h
      refine gf_X9_57 hC hG hM e_t3 dX9_turn_15 ?_
      refine lv_iload_n hx hb dX9_turn_18 rfl (lv_at hl 1 rfl) ?_
      obtain ⟨t4, e_t4, h⟩ := bn h
      refine g_lald hx hb hG hM e_t4 dX9_turn_19 ?_
      obtain ⟨m5, e_m5, h⟩ := bn h
      refine g_last hx hb hG hM e_m5 dX9_turn_20 (fun H locs hM => ?_)
      refine lr_aload_n hx hb dX9_turn_21 rfl (lv_at hl 0 rfl) ?_
      obtain ⟨t6, e_t6, h⟩ := bn h
      refine gf_X9_57 hC hG hM e_t6 dX9_turn_22 ?_
      refine lv_iload_n hx hb dX9_turn_25 rfl (lv_at hl 1 rfl) ?_
      refine lv_ldc2 (v := 1000000000000000) hx hb hC.2.2.2.1 (hC.2.2.2.2 _ wk_X9_258) dX9_turn_26 ?_
      obtain ⟨m7, e_m7, h⟩ := bn h
      refine g_last hx hb hG hM e_m7 dX9_turn_29 (fun H locs hM => ?_)
      refine lv_iconst (v := 0) hx hb dX9_turn_30 (by decide) ?_
      refine lv_istore_n (lv' := [(2, .int 0), (0, va_rf (Option.map ad (some o0))), (1, .int x1)]) hx hb dX9_turn_31 rfl hl (by decide) (by first | rfl | simp [va_cat]) (fun ls hl => ?_)
      exact wX9_turn_b32 hC hG hR Kr ih FU _ _ _ _ _ _ _ h hM (lv_sub hl [1, 2, 0] rfl)
def fX9_turn (o0 : Nat) (σ : Mem) : Option (Mem) :=
  fX9_turn_b2 FU o0 0 σ
set_option maxRecDepth 20000 in
theorem wX9_turn {σ' : Mem} (hC : CallFix p m c cX9_turn 3 s args WALL RX9) (hG : GS D cy A s) (hR : 0 ≤ R.frames ∧ 0 ≤ R.locals) (Kr : KrV p l e R s m args below meth c cX9_turn Q D cy ad A z () σ') (o0 : Nat) (σ : Mem) (H : Heap) (locs : List Loc) (ls : Array Slot) (h : fX9_turn o0 σ = some σ') (hM : MS D cy ad A s.heap z σ H locs) (hl : lv_has ls 3 [(0, va_rf (Option.map ad (some o0)))]) : W p l e R s m args below meth c H locs 0 0 Q (F0 m 0 ls []) := by
  have hx := hC.1
  have hb := hC.2.1
  unfold fX9_turn at h
  refine lv_iconst (v := 0) hx hb dX9_turn_0 (by decide) ?_
  refine lv_istore_n (lv' := [(1, .int 0), (0, va_rf (Option.map ad (some o0)))]) hx hb dX9_turn_1 rfl hl (by decide) (by first | rfl | simp [va_cat]) (fun ls hl => ?_)
  exact wX9_turn_b2 hC hG hR Kr FU _ _ _ _ _ _ h hM (lv_sub hl [1, 0] rfl)
theorem cX9_turn_ok {l : Launch} {D : va_G} {cy : Nat → ClassId} {ad : Nat → Nat} {A : Nat → Prop} {z : Nat} {σ' : Mem} {o0 : Nat} {σ : Mem} (h : fX9_turn o0 σ = some σ') : CtV l yX9_turn cX9_turn 3 none 0 [.ref (ad o0)] D cy ad A z σ () σ' :=
  enterV (own := RX9) (by decide) rfl (Nat.le_of_ble_eq_true rfl) rfl (fun p e s m below meth c Q ls hC hG hM Kr hl => wX9_turn hC hG ⟨Nat.le_refl _, Nat.le_refl _⟩ Kr _ _ _ _ _ h hM hl)
/-! X0_centsFor (I)J -/
def fX0_centsFor_b75  (o0 : Nat) (x2 : Int32) (x3 : Int32) (x4 : Int64)  (σ : Mem) : Option (Int64 × Mem) :=
  (fI σ 0 4 (some o0)).bind fun t1 =>
    some (x4 + (((x2 - x3 : Int32).toInt64) * ((t1 : Int32).toInt64)), σ)
set_option maxRecDepth 20000 in
theorem wX0_centsFor_b75 {r : Int64} {σ' : Mem} (hC : CallFix p m c cX0_centsFor 8 s args WALL RX0) (hG : GS D cy A s) (hR : 1 ≤ R.frames ∧ 36 ≤ R.locals) (Kr : KrL p l e R s m args below meth c cX0_centsFor Q D cy ad A z r σ')  (o0 : Nat) (x2 : Int32) (x3 : Int32) (x4 : Int64)  (σ : Mem) (H : Heap) (locs : List Loc) (ls : Array Slot) (h : fX0_centsFor_b75 o0 x2 x3 x4 σ = some (r, σ')) (hM : MS D cy ad A s.heap z σ H locs) (hl : lv_has ls 8 [(0, va_rf (Option.map ad (some o0))), (2, .int x2), (3, .int x3), (4, .long x4)]) : W p l e R s m args below meth c H locs 0 0 Q (F0 m 75 ls []) := by
  have hx := hC.1
  have hb := hC.2.1
  unfold fX0_centsFor_b75 at h
  refine lv_lload hx hb dX0_centsFor_75 (lv_at hl 3 rfl) ?_
  refine lv_iload_n hx hb dX0_centsFor_77 rfl (lv_at hl 1 rfl) ?_
  refine lv_iload_n hx hb dX0_centsFor_78 rfl (lv_at hl 2 rfl) ?_
  refine lv_isub hx hb dX0_centsFor_79 ?_
  refine lv_i2l hx hb dX0_centsFor_80 rfl ?_
  refine lr_aload_n hx hb dX0_centsFor_81 rfl (lv_at hl 0 rfl) ?_
  obtain ⟨t1, e_t1, h⟩ := bn h
  refine gf_X0_25 hC hG hM e_t1 dX0_centsFor_82 ?_
  refine lv_i2l hx hb dX0_centsFor_85 rfl ?_
  refine lv_lmul hx hb dX0_centsFor_86 ?_
  refine lv_ladd hx hb dX0_centsFor_87 ?_
  obtain ⟨rfl, rfl⟩ := Prod.mk.inj (Option.some.inj h)
  exact Kr _ _ _ _ dX0_centsFor_88 hM
def fX0_centsFor_b19  : Nat → Nat → Int32 → Int32 → Int64 → Int32 → Mem → Option (Int64 × Mem)
  | 0, _, _, _, _, _, _ => none
  | n + 1, o0, x2, x3, x4, x6, σ =>
    (fI σ 0 3 (some o0)).bind fun t1 =>
      if t1 ≤ x6 then fX0_centsFor_b75 o0 x2 x3 x4 σ
      else if 3 ≤ x6 then fX0_centsFor_b75 o0 x2 x3 x4 σ
        else (fR σ 0 0 (some o0)).bind fun t4 =>
          (aI σ 11 t4 x6).bind fun t5 =>
          bd (if t5 < x2 then t5 else x2) fun t6 =>
          (fR σ 0 1 (some o0)).bind fun t7 =>
          (aI σ 11 t7 x6).bind fun t8 =>
          bd (x4 + (((t6 - x3 : Int32).toInt64) * ((t8 : Int32).toInt64))) fun t9 =>
          bd (x6 + 1) fun t10 =>
          (fX0_centsFor_b19 n) o0 x2 t6 t9 t10 σ
set_option maxRecDepth 20000 in
theorem wX0_centsFor_b19 {r : Int64} {σ' : Mem} (hC : CallFix p m c cX0_centsFor 8 s args WALL RX0) (hG : GS D cy A s) (hR : 1 ≤ R.frames ∧ 36 ≤ R.locals) (Kr : KrL p l e R s m args below meth c cX0_centsFor Q D cy ad A z r σ')  : ∀ (n : Nat) (o0 : Nat) (x2 : Int32) (x3 : Int32) (x4 : Int64) (x6 : Int32)  (σ : Mem) (H : Heap) (locs : List Loc) (ls : Array Slot), fX0_centsFor_b19 n o0 x2 x3 x4 x6 σ = some (r, σ') → MS D cy ad A s.heap z σ H locs → lv_has ls 8 [(0, va_rf (Option.map ad (some o0))), (2, .int x2), (3, .int x3), (4, .long x4), (6, .int x6)] → W p l e R s m args below meth c H locs 0 0 Q (F0 m 19 ls []) := by
  have hx := hC.1
  have hb := hC.2.1
  intro n
  induction n with
  | zero =>
    intro o0 x2 x3 x4 x6 σ H locs ls h
    cases h
  | succ n ih =>
    intro o0 x2 x3 x4 x6 σ H locs ls h hM hl
    rw [fX0_centsFor_b19] at h
    refine lv_iload hx hb dX0_centsFor_19 (lv_at hl 4 rfl) ?_
    refine lr_aload_n hx hb dX0_centsFor_21 rfl (lv_at hl 0 rfl) ?_
    obtain ⟨t1, e_t1, h⟩ := bn h
    refine gf_X0_22 hC hG hM e_t1 dX0_centsFor_22 ?_
    refine lv_icmp_ge (tgt := 75) hx hb dX0_centsFor_25 (by decide) (fun c2 => ?_) (fun c2 => ?_)
    · rw [if_pos c2] at h
      exact wX0_centsFor_b75 hC hG hR Kr _ _ _ _ _ _ _ _ h hM (lv_sub hl [0, 1, 2, 3] rfl)
    · rw [if_neg c2] at h
      refine lv_iload hx hb dX0_centsFor_28 (lv_at hl 4 rfl) ?_
      refine lv_iconst (v := 3) hx hb dX0_centsFor_30 (by decide) ?_
      refine lv_icmp_ge (tgt := 75) hx hb dX0_centsFor_31 (by decide) (fun c3 => ?_) (fun c3 => ?_)
      · rw [if_pos c3] at h
        exact wX0_centsFor_b75 hC hG hR Kr _ _ _ _ _ _ _ _ h hM (lv_sub hl [0, 1, 2, 3] rfl)
      · rw [if_neg c3] at h
        refine lv_iload_n hx hb dX0_centsFor_34 rfl (lv_at hl 1 rfl) ?_
        refine lr_aload_n hx hb dX0_centsFor_35 rfl (lv_at hl 0 rfl) ?_
        obtain ⟨t4, e_t4, h⟩ := bn h
        refine gf_X0_9 hC hG hM e_t4 dX0_centsFor_36 ?_
        refine lv_iload hx hb dX0_centsFor_39 (lv_at hl 4 rfl) ?_
        obtain ⟨t5, e_t5, h⟩ := bn h
        refine g_iald hx hb hG hM e_t5 dX0_centsFor_41 ?_
        refine mm_X0_34 hC (by omega) (by simp [va_cat, vcI, vcL, vcR] <;> omega) dX0_centsFor_42 hl.1 ?_
        obtain ⟨t6, e_t6, h⟩ := bd_elim h
        refine lr_nmi e_t6 ?_
        refine lv_istore (lv' := [(7, .int t6), (0, va_rf (Option.map ad (some o0))), (2, .int x2), (3, .int x3), (4, .long x4), (6, .int x6)]) hx hb dX0_centsFor_45 hl (by decide) (by first | rfl | simp [va_cat]) (fun ls hl => ?_)
        refine lv_lload hx hb dX0_centsFor_47 (lv_at hl 4 rfl) ?_
        refine lv_iload hx hb dX0_centsFor_49 (lv_at hl 0 rfl) ?_
        refine lv_iload_n hx hb dX0_centsFor_51 rfl (lv_at hl 3 rfl) ?_
        refine lv_isub hx hb dX0_centsFor_52 ?_
        refine lv_i2l hx hb dX0_centsFor_53 rfl ?_
        refine lr_aload_n hx hb dX0_centsFor_54 rfl (lv_at hl 1 rfl) ?_
        obtain ⟨t7, e_t7, h⟩ := bn h
        refine gf_X0_15 hC hG hM e_t7 dX0_centsFor_55 ?_
        refine lv_iload hx hb dX0_centsFor_58 (lv_at hl 5 rfl) ?_
        obtain ⟨t8, e_t8, h⟩ := bn h
        refine g_iald hx hb hG hM e_t8 dX0_centsFor_60 ?_
        refine lv_i2l hx hb dX0_centsFor_61 rfl ?_
        refine lv_lmul hx hb dX0_centsFor_62 ?_
        refine lv_ladd hx hb dX0_centsFor_63 ?_
        obtain ⟨t9, e_t9, h⟩ := bd_elim h
        refine lr_nml e_t9 ?_
        refine lv_lstore (lv' := [(4, .long t9), (7, .int t6), (0, va_rf (Option.map ad (some o0))), (2, .int x2), (3, .int x3), (6, .int x6)]) hx hb dX0_centsFor_64 hl (by decide) (by first | rfl | simp [va_cat]) (fun ls hl => ?_)
        refine lv_iload hx hb dX0_centsFor_66 (lv_at hl 1 rfl) ?_
        refine lv_istore_n (lv' := [(3, .int t6), (4, .long t9), (7, .int t6), (0, va_rf (Option.map ad (some o0))), (2, .int x2), (6, .int x6)]) hx hb dX0_centsFor_68 rfl hl (by decide) (by first | rfl | simp [va_cat]) (fun ls hl => ?_)
        obtain ⟨t10, e_t10, h⟩ := bd_elim h
        refine lv_iinc (v := t10) (lv' := [(6, .int t10), (3, .int t6), (4, .long t9), (7, .int t6), (0, va_rf (Option.map ad (some o0))), (2, .int x2)]) hx hb dX0_centsFor_69 hl (k := 5) rfl (by rw [e_t10]; rfl) (by decide) (by first | rfl | simp [va_cat]) (fun ls hl => ?_)
        refine lv_goto (tgt := 19) hx hb dX0_centsFor_72 (by decide) ?_
        exact ih _ _ _ _ _ _ _ _ _ h hM (lv_sub hl [4, 5, 1, 2, 0] rfl)
def fX0_centsFor (o0 : Nat) (x1 : Int32) (σ : Mem) : Option (Int64 × Mem) :=
  (fI σ 0 2 (some o0)).bind fun t1 =>
    bd (if 0 < (x1 - t1) then (x1 - t1) else 0) fun t2 =>
    fX0_centsFor_b19 FU o0 t2 0 0 0 σ
set_option maxRecDepth 20000 in
theorem wX0_centsFor {r : Int64} {σ' : Mem} (hC : CallFix p m c cX0_centsFor 8 s args WALL RX0) (hG : GS D cy A s) (hR : 1 ≤ R.frames ∧ 36 ≤ R.locals) (Kr : KrL p l e R s m args below meth c cX0_centsFor Q D cy ad A z r σ') (o0 : Nat) (x1 : Int32) (σ : Mem) (H : Heap) (locs : List Loc) (ls : Array Slot) (h : fX0_centsFor o0 x1 σ = some (r, σ')) (hM : MS D cy ad A s.heap z σ H locs) (hl : lv_has ls 8 [(0, va_rf (Option.map ad (some o0))), (1, .int x1)]) : W p l e R s m args below meth c H locs 0 0 Q (F0 m 0 ls []) := by
  have hx := hC.1
  have hb := hC.2.1
  unfold fX0_centsFor at h
  refine lv_iconst (v := 0) hx hb dX0_centsFor_0 (by decide) ?_
  refine lv_iload_n hx hb dX0_centsFor_1 rfl (lv_at hl 1 rfl) ?_
  refine lr_aload_n hx hb dX0_centsFor_2 rfl (lv_at hl 0 rfl) ?_
  obtain ⟨t1, e_t1, h⟩ := bn h
  refine gf_X0_18 hC hG hM e_t1 dX0_centsFor_3 ?_
  refine lv_isub hx hb dX0_centsFor_6 ?_
  refine mm_X0_28 hC (by omega) (by simp [va_cat, vcI, vcL, vcR] <;> omega) dX0_centsFor_7 hl.1 ?_
  obtain ⟨t2, e_t2, h⟩ := bd_elim h
  refine lr_nmi e_t2 ?_
  refine lv_istore_n (lv' := [(2, .int t2), (0, va_rf (Option.map ad (some o0))), (1, .int x1)]) hx hb dX0_centsFor_10 rfl hl (by decide) (by first | rfl | simp [va_cat]) (fun ls hl => ?_)
  refine lv_iconst (v := 0) hx hb dX0_centsFor_11 (by decide) ?_
  refine lv_istore_n (lv' := [(3, .int 0), (2, .int t2), (0, va_rf (Option.map ad (some o0))), (1, .int x1)]) hx hb dX0_centsFor_12 rfl hl (by decide) (by first | rfl | simp [va_cat]) (fun ls hl => ?_)
  refine lv_lconst (v := 0) hx hb dX0_centsFor_13 (by decide) ?_
  refine lv_lstore (lv' := [(4, .long 0), (3, .int 0), (2, .int t2), (0, va_rf (Option.map ad (some o0))), (1, .int x1)]) hx hb dX0_centsFor_14 hl (by decide) (by first | rfl | simp [va_cat]) (fun ls hl => ?_)
  refine lv_iconst (v := 0) hx hb dX0_centsFor_16 (by decide) ?_
  refine lv_istore (lv' := [(6, .int 0), (4, .long 0), (3, .int 0), (2, .int t2), (0, va_rf (Option.map ad (some o0))), (1, .int x1)]) hx hb dX0_centsFor_17 hl (by decide) (by first | rfl | simp [va_cat]) (fun ls hl => ?_)
  exact wX0_centsFor_b19 hC hG hR Kr FU _ _ _ _ _ _ _ _ _ h hM (lv_sub hl [4, 3, 2, 1, 0] rfl)
theorem cX0_centsFor_ok {l : Launch} {D : va_G} {cy : Nat → ClassId} {ad : Nat → Nat} {A : Nat → Prop} {z : Nat} {r : Int64} {σ' : Mem} {o0 : Nat} {x1 : Int32} {σ : Mem} (h : fX0_centsFor o0 x1 σ = some (r, σ')) : CtL l yX0_centsFor cX0_centsFor 8 (some .long) 1 [.ref (ad o0), .int x1] D cy ad A z σ r σ' :=
  enterL (own := RX0) (by decide) rfl (Nat.le_of_ble_eq_true rfl) rfl (fun p e s m below meth c Q ls hC hG hM Kr hl => wX0_centsFor hC hG ⟨Nat.le_refl _, Nat.le_refl _⟩ Kr _ _ _ _ _ _ h hM hl)
/-! X1_fillLeast (I)V -/
def fX1_fillLeast_b88  (o0 : Nat) (x1 : Int32) (x3 : Int64)  (σ : Mem) : Option (Mem) :=
  (fR σ 1 1 (some o0)).bind fun t1 =>
    (wJ σ 12 t1 x1 x3).bind fun m2 =>
    some m2
set_option maxRecDepth 20000 in
theorem wX1_fillLeast_b88 {σ' : Mem} (hC : CallFix p m c cX1_fillLeast 8 s args WALL RX1) (hG : GS D cy A s) (hR : 1 ≤ R.frames ∧ 36 ≤ R.locals) (Kr : KrV p l e R s m args below meth c cX1_fillLeast Q D cy ad A z () σ')  (o0 : Nat) (x1 : Int32) (x3 : Int64)  (σ : Mem) (H : Heap) (locs : List Loc) (ls : Array Slot) (h : fX1_fillLeast_b88 o0 x1 x3 σ = some σ') (hM : MS D cy ad A s.heap z σ H locs) (hl : lv_has ls 8 [(0, va_rf (Option.map ad (some o0))), (1, .int x1), (3, .long x3)]) : W p l e R s m args below meth c H locs 0 0 Q (F0 m 88 ls []) := by
  have hx := hC.1
  have hb := hC.2.1
  unfold fX1_fillLeast_b88 at h
  refine lr_aload_n hx hb dX1_fillLeast_88 rfl (lv_at hl 0 rfl) ?_
  obtain ⟨t1, e_t1, h⟩ := bn h
  refine gf_X1_15 hC hG hM e_t1 dX1_fillLeast_89 ?_
  refine lv_iload_n hx hb dX1_fillLeast_92 rfl (lv_at hl 1 rfl) ?_
  refine lv_lload_n hx hb dX1_fillLeast_93 rfl (lv_at hl 2 rfl) ?_
  obtain ⟨m2, e_m2, h⟩ := bn h
  refine g_last hx hb hG hM e_m2 dX1_fillLeast_94 (fun H locs hM => ?_)
  cases h
  exact Kr _ _ _ _ dX1_fillLeast_95 hM
def fX1_fillLeast_b82 (rc12 : Nat → Int32 → Int32 → Int64 → Int32 → Mem → Option (Mem)) (o0 : Nat) (x1 : Int32) (x2 : Int32) (x3 : Int64) (x5 : Int32)  (σ : Mem) : Option (Mem) :=
  bd (x5 + 1) fun t1 =>
    rc12 o0 x1 x2 x3 t1 σ
set_option maxRecDepth 20000 in
theorem wX1_fillLeast_b82 {σ' : Mem} (hC : CallFix p m c cX1_fillLeast 8 s args WALL RX1) (hG : GS D cy A s) (hR : 1 ≤ R.frames ∧ 36 ≤ R.locals) (Kr : KrV p l e R s m args below meth c cX1_fillLeast Q D cy ad A z () σ') {rc12 : Nat → Int32 → Int32 → Int64 → Int32 → Mem → Option (Mem)} (Kc12 : ∀ (o0 : Nat) (x1 : Int32) (x2 : Int32) (x3 : Int64) (x5 : Int32) (τ : Mem) (H : Heap) (locs : List Loc) (ls : Array Slot), rc12 o0 x1 x2 x3 x5 τ = some σ' → MS D cy ad A s.heap z τ H locs → lv_has ls 8 [(0, va_rf (Option.map ad (some o0))), (1, .int x1), (2, .int x2), (3, .long x3), (5, .int x5)] → W p l e R s m args below meth c H locs 0 0 Q (F0 m 12 ls [])) (o0 : Nat) (x1 : Int32) (x2 : Int32) (x3 : Int64) (x5 : Int32)  (σ : Mem) (H : Heap) (locs : List Loc) (ls : Array Slot) (h : fX1_fillLeast_b82 rc12 o0 x1 x2 x3 x5 σ = some σ') (hM : MS D cy ad A s.heap z σ H locs) (hl : lv_has ls 8 [(0, va_rf (Option.map ad (some o0))), (1, .int x1), (2, .int x2), (3, .long x3), (5, .int x5)]) : W p l e R s m args below meth c H locs 0 0 Q (F0 m 82 ls []) := by
  have hx := hC.1
  have hb := hC.2.1
  unfold fX1_fillLeast_b82 at h
  obtain ⟨t1, e_t1, h⟩ := bd_elim h
  refine lv_iinc (v := t1) (lv' := [(5, .int t1), (0, va_rf (Option.map ad (some o0))), (1, .int x1), (2, .int x2), (3, .long x3)]) hx hb dX1_fillLeast_82 hl (k := 4) rfl (by rw [e_t1]; rfl) (by decide) (by first | rfl | simp [va_cat]) (fun ls hl => ?_)
  refine lv_goto (tgt := 12) hx hb dX1_fillLeast_85 (by decide) ?_
  exact Kc12 _ _ _ _ _ _ _ _ _ h hM (lv_sub hl [1, 2, 3, 4, 0] rfl)
def fX1_fillLeast_b12  : Nat → Nat → Int32 → Int32 → Int64 → Int32 → Mem → Option (Mem)
  | 0, _, _, _, _, _, _ => none
  | n + 1, o0, x1, x2, x3, x5, σ =>
    if x1 < x5 then fX1_fillLeast_b88 o0 x1 x3 σ
      else if 15 < x5 then fX1_fillLeast_b88 o0 x1 x3 σ
        else if (x5 &&& x1) = x5 then if (x5 &&& x2) = 0 then fX1_fillLeast_b82 (fX1_fillLeast_b12 n) o0 x1 x2 x3 x5 σ
            else (fR σ 1 0 (some o0)).bind fun t5 =>
              (aJ σ 12 t5 x5).bind fun t6 =>
              (fR σ 1 1 (some o0)).bind fun t7 =>
              (aJ σ 12 t7 (x1 ^^^ x5)).bind fun t8 =>
              b2 (fX8_plus t6 t8 σ) fun t9 m10 =>
              b2 (fX8_isCheaper t9 x3 m10) fun t11 m12 =>
              if t11 = 0 then fX1_fillLeast_b82 (fX1_fillLeast_b12 n) o0 x1 x2 x3 x5 m12
              else (fR m12 1 2 (some o0)).bind fun t14 =>
                (wI m12 11 t14 x1 x5).bind fun m15 =>
                fX1_fillLeast_b82 (fX1_fillLeast_b12 n) o0 x1 x2 t9 x5 m15
          else fX1_fillLeast_b82 (fX1_fillLeast_b12 n) o0 x1 x2 x3 x5 σ
set_option maxRecDepth 20000 in
theorem wX1_fillLeast_b12 {σ' : Mem} (hC : CallFix p m c cX1_fillLeast 8 s args WALL RX1) (hG : GS D cy A s) (hR : 1 ≤ R.frames ∧ 36 ≤ R.locals) (Kr : KrV p l e R s m args below meth c cX1_fillLeast Q D cy ad A z () σ')  : ∀ (n : Nat) (o0 : Nat) (x1 : Int32) (x2 : Int32) (x3 : Int64) (x5 : Int32)  (σ : Mem) (H : Heap) (locs : List Loc) (ls : Array Slot), fX1_fillLeast_b12 n o0 x1 x2 x3 x5 σ = some σ' → MS D cy ad A s.heap z σ H locs → lv_has ls 8 [(0, va_rf (Option.map ad (some o0))), (1, .int x1), (2, .int x2), (3, .long x3), (5, .int x5)] → W p l e R s m args below meth c H locs 0 0 Q (F0 m 12 ls []) := by
  have hx := hC.1
  have hb := hC.2.1
  intro n
  induction n with
  | zero =>
    intro o0 x1 x2 x3 x5 σ H locs ls h
    cases h
  | succ n ih =>
    intro o0 x1 x2 x3 x5 σ H locs ls h hM hl
    rw [fX1_fillLeast_b12] at h
    refine lv_iload hx hb dX1_fillLeast_12 (lv_at hl 4 rfl) ?_
    refine lv_iload_n hx hb dX1_fillLeast_14 rfl (lv_at hl 1 rfl) ?_
    refine lv_icmp_gt (tgt := 88) hx hb dX1_fillLeast_15 (by decide) (fun c1 => ?_) (fun c1 => ?_)
    · rw [if_pos c1] at h
      exact wX1_fillLeast_b88 hC hG hR Kr _ _ _ _ _ _ _ h hM (lv_sub hl [0, 1, 3] rfl)
    · rw [if_neg c1] at h
      refine lv_iload hx hb dX1_fillLeast_18 (lv_at hl 4 rfl) ?_
      refine lv_bipush (v := 15) hx hb dX1_fillLeast_20 (by decide) ?_
      refine lv_icmp_gt (tgt := 88) hx hb dX1_fillLeast_22 (by decide) (fun c2 => ?_) (fun c2 => ?_)
      · rw [if_pos c2] at h
        exact wX1_fillLeast_b88 hC hG hR Kr _ _ _ _ _ _ _ h hM (lv_sub hl [0, 1, 3] rfl)
      · rw [if_neg c2] at h
        refine lv_iload hx hb dX1_fillLeast_25 (lv_at hl 4 rfl) ?_
        refine lv_iload_n hx hb dX1_fillLeast_27 rfl (lv_at hl 1 rfl) ?_
        refine lv_iand hx hb dX1_fillLeast_28 ?_
        refine lv_iload hx hb dX1_fillLeast_29 (lv_at hl 4 rfl) ?_
        refine lv_icmp_ne (tgt := 82) hx hb dX1_fillLeast_31 (by decide) (fun c3 => ?_) (fun c3 => ?_)
        · rw [if_neg c3] at h
          exact wX1_fillLeast_b82 hC hG hR Kr ih _ _ _ _ _ _ _ _ _ h hM (lv_sub hl [0, 1, 2, 3, 4] rfl)
        · rw [if_pos c3] at h
          refine lv_iload hx hb dX1_fillLeast_34 (lv_at hl 4 rfl) ?_
          refine lv_iload_n hx hb dX1_fillLeast_36 rfl (lv_at hl 2 rfl) ?_
          refine lv_iand hx hb dX1_fillLeast_37 ?_
          refine lv_if_eq (tgt := 82) hx hb dX1_fillLeast_38 (by decide) (fun c4 => ?_) (fun c4 => ?_)
          · rw [if_pos c4] at h
            exact wX1_fillLeast_b82 hC hG hR Kr ih _ _ _ _ _ _ _ _ _ h hM (lv_sub hl [0, 1, 2, 3, 4] rfl)
          · rw [if_neg c4] at h
            refine lr_aload_n hx hb dX1_fillLeast_41 rfl (lv_at hl 0 rfl) ?_
            obtain ⟨t5, e_t5, h⟩ := bn h
            refine gf_X1_9 hC hG hM e_t5 dX1_fillLeast_42 ?_
            refine lv_iload hx hb dX1_fillLeast_45 (lv_at hl 4 rfl) ?_
            obtain ⟨t6, e_t6, h⟩ := bn h
            refine g_lald hx hb hG hM e_t6 dX1_fillLeast_47 ?_
            refine lr_aload_n hx hb dX1_fillLeast_48 rfl (lv_at hl 0 rfl) ?_
            obtain ⟨t7, e_t7, h⟩ := bn h
            refine gf_X1_15 hC hG hM e_t7 dX1_fillLeast_49 ?_
            refine lv_iload_n hx hb dX1_fillLeast_52 rfl (lv_at hl 1 rfl) ?_
            refine lv_iload hx hb dX1_fillLeast_53 (lv_at hl 4 rfl) ?_
            refine lv_ixor hx hb dX1_fillLeast_55 ?_
            obtain ⟨t8, e_t8, h⟩ := bn h
            refine g_lald hx hb hG hM e_t8 dX1_fillLeast_56 ?_
            obtain ⟨t9, m10, e_m10, h⟩ := b2_elim h
            refine cs_X1_41 hC hG hM (cX8_plus_ok e_m10) ⟨by omega, by omega⟩ hl.1 (by first | exact Nat.le_of_ble_eq_true rfl | simp [va_cat, vcI, vcL, vcR]) dX1_fillLeast_57 (fun H locs hM => ?_)
            refine lv_lstore (lv' := [(6, .long t9), (0, va_rf (Option.map ad (some o0))), (1, .int x1), (2, .int x2), (3, .long x3), (5, .int x5)]) hx hb dX1_fillLeast_60 hl (by decide) (by first | rfl | simp [va_cat]) (fun ls hl => ?_)
            refine lv_lload hx hb dX1_fillLeast_62 (lv_at hl 0 rfl) ?_
            refine lv_lload_n hx hb dX1_fillLeast_64 rfl (lv_at hl 4 rfl) ?_
            obtain ⟨t11, m12, e_m12, h⟩ := b2_elim h
            refine cs_X1_45 hC hG hM (cX8_isCheaper_ok e_m12) ⟨by omega, by omega⟩ hl.1 (by first | exact Nat.le_of_ble_eq_true rfl | simp [va_cat, vcI, vcL, vcR]) dX1_fillLeast_65 (fun H locs hM => ?_)
            refine lv_if_eq (tgt := 82) hx hb dX1_fillLeast_68 (by decide) (fun c13 => ?_) (fun c13 => ?_)
            · rw [if_pos c13] at h
              exact wX1_fillLeast_b82 hC hG hR Kr ih _ _ _ _ _ _ _ _ _ h hM (lv_sub hl [1, 2, 3, 4, 5] rfl)
            · rw [if_neg c13] at h
              refine lv_lload hx hb dX1_fillLeast_71 (lv_at hl 0 rfl) ?_
              refine lv_lstore_n (lv' := [(3, .long t9), (6, .long t9), (0, va_rf (Option.map ad (some o0))), (1, .int x1), (2, .int x2), (5, .int x5)]) hx hb dX1_fillLeast_73 rfl hl (by decide) (by first | rfl | simp [va_cat]) (fun ls hl => ?_)
              refine lr_aload_n hx hb dX1_fillLeast_74 rfl (lv_at hl 2 rfl) ?_
              obtain ⟨t14, e_t14, h⟩ := bn h
              refine gf_X1_18 hC hG hM e_t14 dX1_fillLeast_75 ?_
              refine lv_iload_n hx hb dX1_fillLeast_78 rfl (lv_at hl 3 rfl) ?_
              refine lv_iload hx hb dX1_fillLeast_79 (lv_at hl 5 rfl) ?_
              obtain ⟨m15, e_m15, h⟩ := bn h
              refine g_iast hx hb hG hM e_m15 dX1_fillLeast_81 (fun H locs hM => ?_)
              exact wX1_fillLeast_b82 hC hG hR Kr ih _ _ _ _ _ _ _ _ _ h hM (lv_sub hl [2, 3, 4, 0, 5] rfl)
def fX1_fillLeast (o0 : Nat) (x1 : Int32) (σ : Mem) : Option (Mem) :=
  bd (x1 &&& (-x1)) fun t1 =>
    fX1_fillLeast_b12 FU o0 x1 t1 (-1) 1 σ
set_option maxRecDepth 20000 in
theorem wX1_fillLeast {σ' : Mem} (hC : CallFix p m c cX1_fillLeast 8 s args WALL RX1) (hG : GS D cy A s) (hR : 1 ≤ R.frames ∧ 36 ≤ R.locals) (Kr : KrV p l e R s m args below meth c cX1_fillLeast Q D cy ad A z () σ') (o0 : Nat) (x1 : Int32) (σ : Mem) (H : Heap) (locs : List Loc) (ls : Array Slot) (h : fX1_fillLeast o0 x1 σ = some σ') (hM : MS D cy ad A s.heap z σ H locs) (hl : lv_has ls 8 [(0, va_rf (Option.map ad (some o0))), (1, .int x1)]) : W p l e R s m args below meth c H locs 0 0 Q (F0 m 0 ls []) := by
  have hx := hC.1
  have hb := hC.2.1
  unfold fX1_fillLeast at h
  refine lv_iload_n hx hb dX1_fillLeast_0 rfl (lv_at hl 1 rfl) ?_
  refine lv_iload_n hx hb dX1_fillLeast_1 rfl (lv_at hl 1 rfl) ?_
  refine lv_ineg hx hb dX1_fillLeast_2 ?_
  refine lv_iand hx hb dX1_fillLeast_3 ?_
  obtain ⟨t1, e_t1, h⟩ := bd_elim h
  refine lr_nmi e_t1 ?_
  refine lv_istore_n (lv' := [(2, .int t1), (0, va_rf (Option.map ad (some o0))), (1, .int x1)]) hx hb dX1_fillLeast_4 rfl hl (by decide) (by first | rfl | simp [va_cat]) (fun ls hl => ?_)
  refine lv_ldc2 (v := (-1)) hx hb hC.2.2.2.1 (hC.2.2.2.2 _ wk_X1_36) dX1_fillLeast_5 ?_
  refine lv_lstore_n (lv' := [(3, .long (-1)), (2, .int t1), (0, va_rf (Option.map ad (some o0))), (1, .int x1)]) hx hb dX1_fillLeast_8 rfl hl (by decide) (by first | rfl | simp [va_cat]) (fun ls hl => ?_)
  refine lv_iconst (v := 1) hx hb dX1_fillLeast_9 (by decide) ?_
  refine lv_istore (lv' := [(5, .int 1), (3, .long (-1)), (2, .int t1), (0, va_rf (Option.map ad (some o0))), (1, .int x1)]) hx hb dX1_fillLeast_10 hl (by decide) (by first | rfl | simp [va_cat]) (fun ls hl => ?_)
  exact wX1_fillLeast_b12 hC hG hR Kr FU _ _ _ _ _ _ _ _ _ h hM (lv_sub hl [3, 4, 2, 1, 0] rfl)
theorem cX1_fillLeast_ok {l : Launch} {D : va_G} {cy : Nat → ClassId} {ad : Nat → Nat} {A : Nat → Prop} {z : Nat} {σ' : Mem} {o0 : Nat} {x1 : Int32} {σ : Mem} (h : fX1_fillLeast o0 x1 σ = some σ') : CtV l yX1_fillLeast cX1_fillLeast 8 none 1 [.ref (ad o0), .int x1] D cy ad A z σ () σ' :=
  enterV (own := RX1) (by decide) rfl (Nat.le_of_ble_eq_true rfl) rfl (fun p e s m below meth c Q ls hC hG hM Kr hl => wX1_fillLeast hC hG ⟨Nat.le_refl _, Nat.le_refl _⟩ Kr _ _ _ _ _ _ h hM hl)
/-! X1_tellBest (IJ)V -/
def fX1_tellBest_b17    (σ : Mem) : Option (Mem) :=
  some σ
set_option maxRecDepth 20000 in
theorem wX1_tellBest_b17 {σ' : Mem} (hC : CallFix p m c cX1_tellBest 4 s args WALL RX1) (hG : GS D cy A s) (hR : 1 ≤ R.frames ∧ 36 ≤ R.locals) (Kr : KrV p l e R s m args below meth c cX1_tellBest Q D cy ad A z () σ')    (σ : Mem) (H : Heap) (locs : List Loc) (ls : Array Slot) (h : fX1_tellBest_b17  σ = some σ') (hM : MS D cy ad A s.heap z σ H locs) (hl : lv_has ls 4 []) : W p l e R s m args below meth c H locs 0 0 Q (F0 m 17 ls []) := by
  have hx := hC.1
  have hb := hC.2.1
  unfold fX1_tellBest_b17 at h
  cases h
  exact Kr _ _ _ _ dX1_tellBest_17 hM
def fX1_tellBest (o0 : Nat) (x1 : Int32) (x2 : Int64) (σ : Mem) : Option (Mem) :=
  b2 (fX8_isWithin x1 1 15 σ) fun t1 m2 =>
    if t1 = 0 then fX1_tellBest_b17 m2
    else (fR m2 1 0 (some o0)).bind fun t4 =>
      (wJ m2 12 t4 x1 x2).bind fun m5 =>
      fX1_tellBest_b17 m5
set_option maxRecDepth 20000 in
theorem wX1_tellBest {σ' : Mem} (hC : CallFix p m c cX1_tellBest 4 s args WALL RX1) (hG : GS D cy A s) (hR : 1 ≤ R.frames ∧ 36 ≤ R.locals) (Kr : KrV p l e R s m args below meth c cX1_tellBest Q D cy ad A z () σ') (o0 : Nat) (x1 : Int32) (x2 : Int64) (σ : Mem) (H : Heap) (locs : List Loc) (ls : Array Slot) (h : fX1_tellBest o0 x1 x2 σ = some σ') (hM : MS D cy ad A s.heap z σ H locs) (hl : lv_has ls 4 [(0, va_rf (Option.map ad (some o0))), (1, .int x1), (2, .long x2)]) : W p l e R s m args below meth c H locs 0 0 Q (F0 m 0 ls []) := by
  have hx := hC.1
  have hb := hC.2.1
  unfold fX1_tellBest at h
  refine lv_iload_n hx hb dX1_tellBest_0 rfl (lv_at hl 1 rfl) ?_
  refine lv_iconst (v := 1) hx hb dX1_tellBest_1 (by decide) ?_
  refine lv_bipush (v := 15) hx hb dX1_tellBest_2 (by decide) ?_
  obtain ⟨t1, m2, e_m2, h⟩ := b2_elim h
  refine cs_X1_28 hC hG hM (cX8_isWithin_ok e_m2) ⟨by omega, by omega⟩ hl.1 (by first | exact Nat.le_of_ble_eq_true rfl | simp [va_cat, vcI, vcL, vcR]) dX1_tellBest_4 (fun H locs hM => ?_)
  refine lv_if_eq (tgt := 17) hx hb dX1_tellBest_7 (by decide) (fun c3 => ?_) (fun c3 => ?_)
  · rw [if_pos c3] at h
    exact wX1_tellBest_b17 hC hG hR Kr _ _ _ _ h hM (lv_sub hl [] rfl)
  · rw [if_neg c3] at h
    refine lr_aload_n hx hb dX1_tellBest_10 rfl (lv_at hl 0 rfl) ?_
    obtain ⟨t4, e_t4, h⟩ := bn h
    refine gf_X1_9 hC hG hM e_t4 dX1_tellBest_11 ?_
    refine lv_iload_n hx hb dX1_tellBest_14 rfl (lv_at hl 1 rfl) ?_
    refine lv_lload_n hx hb dX1_tellBest_15 rfl (lv_at hl 2 rfl) ?_
    obtain ⟨m5, e_m5, h⟩ := bn h
    refine g_last hx hb hG hM e_m5 dX1_tellBest_16 (fun H locs hM => ?_)
    exact wX1_tellBest_b17 hC hG hR Kr _ _ _ _ h hM (lv_sub hl [] rfl)
theorem cX1_tellBest_ok {l : Launch} {D : va_G} {cy : Nat → ClassId} {ad : Nat → Nat} {A : Nat → Prop} {z : Nat} {σ' : Mem} {o0 : Nat} {x1 : Int32} {x2 : Int64} {σ : Mem} (h : fX1_tellBest o0 x1 x2 σ = some σ') : CtV l yX1_tellBest cX1_tellBest 4 none 1 [.ref (ad o0), .int x1, .long x2] D cy ad A z σ () σ' :=
  enterV (own := RX1) (by decide) rfl (Nat.le_of_ble_eq_true rfl) rfl (fun p e s m below meth c Q ls hC hG hM Kr hl => wX1_tellBest hC hG ⟨Nat.le_refl _, Nat.le_refl _⟩ Kr _ _ _ _ _ _ _ h hM hl)
/-! X2_addPart (I)LTariffDesk$Part; -/
def fX2_addPart_b38  (x2 : Option Nat)  (σ : Mem) : Option (Option Nat × Mem) :=
  some (x2, σ)
set_option maxRecDepth 20000 in
theorem wX2_addPart_b38 {r : Option Nat} {σ' : Mem} (hC : CallFix p m c cX2_addPart 3 s args WALL RX2) (hG : GS D cy A s) (hR : 1 ≤ R.frames ∧ 36 ≤ R.locals) (Kr : KrR p l e R s m args below meth c cX2_addPart Q D cy ad A z r σ')  (x2 : Option Nat)  (σ : Mem) (H : Heap) (locs : List Loc) (ls : Array Slot) (h : fX2_addPart_b38 x2 σ = some (r, σ')) (hM : MS D cy ad A s.heap z σ H locs) (hl : lv_has ls 3 [(2, va_rf (Option.map ad x2))]) : W p l e R s m args below meth c H locs 0 0 Q (F0 m 38 ls []) := by
  have hx := hC.1
  have hb := hC.2.1
  unfold fX2_addPart_b38 at h
  refine lr_aload_n hx hb dX2_addPart_38 rfl (lv_at hl 0 rfl) ?_
  obtain ⟨rfl, rfl⟩ := Prod.mk.inj (Option.some.inj h)
  exact Kr _ _ _ _ dX2_addPart_39 hM
def fX2_addPart (o0 : Nat) (x1 : Int32) (σ : Mem) : Option (Option Nat × Mem) :=
  b2 (fX8_isWithin x1 0 3 σ) fun t1 m2 =>
    if t1 = 0 then some (none, m2)
    else (fR m2 2 0 (some o0)).bind fun t4 =>
      (aR m2 14 t4 x1).bind fun t5 =>
      if t5 = none then fX2_addPart_b38 t5 m2
      else (kT m2 0 t5).bind fun k7 =>
        (fX0_clear k7 m2).bind fun m8 =>
        (fI m8 2 7 (some o0)).bind fun t9 =>
        (pI m8 2 7 (some o0) (t9 ||| (1 <<< (x1 &&& 31)))).bind fun m10 =>
        fX2_addPart_b38 t5 m10
set_option maxRecDepth 20000 in
theorem wX2_addPart {r : Option Nat} {σ' : Mem} (hC : CallFix p m c cX2_addPart 3 s args WALL RX2) (hG : GS D cy A s) (hR : 1 ≤ R.frames ∧ 36 ≤ R.locals) (Kr : KrR p l e R s m args below meth c cX2_addPart Q D cy ad A z r σ') (o0 : Nat) (x1 : Int32) (σ : Mem) (H : Heap) (locs : List Loc) (ls : Array Slot) (h : fX2_addPart o0 x1 σ = some (r, σ')) (hM : MS D cy ad A s.heap z σ H locs) (hl : lv_has ls 3 [(0, va_rf (Option.map ad (some o0))), (1, .int x1)]) : W p l e R s m args below meth c H locs 0 0 Q (F0 m 0 ls []) := by
  have hx := hC.1
  have hb := hC.2.1
  unfold fX2_addPart at h
  refine lv_iload_n hx hb dX2_addPart_0 rfl (lv_at hl 1 rfl) ?_
  refine lv_iconst (v := 0) hx hb dX2_addPart_1 (by decide) ?_
  refine lv_iconst (v := 3) hx hb dX2_addPart_2 (by decide) ?_
  obtain ⟨t1, m2, e_m2, h⟩ := b2_elim h
  refine cs_X2_44 hC hG hM (cX8_isWithin_ok e_m2) ⟨by omega, by omega⟩ hl.1 (by first | exact Nat.le_of_ble_eq_true rfl | simp [va_cat, vcI, vcL, vcR]) dX2_addPart_3 (fun H locs hM => ?_)
  refine lv_if_ne (tgt := 11) hx hb dX2_addPart_6 (by decide) (fun c3 => ?_) (fun c3 => ?_)
  · rw [if_neg c3] at h
    refine lr_aload_n hx hb dX2_addPart_11 rfl (lv_at hl 0 rfl) ?_
    obtain ⟨t4, e_t4, h⟩ := bn h
    refine gf_X2_11 hC hG hM e_t4 dX2_addPart_12 ?_
    refine lv_iload_n hx hb dX2_addPart_15 rfl (lv_at hl 1 rfl) ?_
    obtain ⟨t5, e_t5, h⟩ := bn h
    refine g_aald14 hx hb hG hM e_t5 dX2_addPart_16 ?_
    refine lr_astore_n (lv' := [(2, va_rf (Option.map ad t5)), (0, va_rf (Option.map ad (some o0))), (1, .int x1)]) hx hb dX2_addPart_17 rfl hl (by decide) (by first | rfl | simp [va_cat]) (fun ls hl => ?_)
    refine lr_aload_n hx hb dX2_addPart_18 rfl (lv_at hl 0 rfl) ?_
    refine lr_ifnull (tgt := 38) hx hb dX2_addPart_19 (by decide) (fun c6 => ?_) (fun c6 => ?_)
    · rw [if_pos c6] at h
      exact wX2_addPart_b38 hC hG hR Kr _ _ _ _ _ h hM (lv_sub hl [0] rfl)
    · rw [if_neg c6] at h
      refine lr_aload_n hx hb dX2_addPart_22 rfl (lv_at hl 0 rfl) ?_
      obtain ⟨k7, e_k7, h⟩ := bn h
      obtain ⟨m8, e_m8, h⟩ := bn h
      refine cs_X2_48 e_k7 hC hG hM (cX0_clear_ok e_m8) ⟨by omega, by omega⟩ hl.1 (by first | exact Nat.le_of_ble_eq_true rfl | simp [va_cat, vcI, vcL, vcR]) dX2_addPart_23 (fun H locs hM => ?_)
      refine lr_aload_n hx hb dX2_addPart_26 rfl (lv_at hl 1 rfl) ?_
      refine lv_dup hx hb dX2_addPart_27 (va_cat _) ?_
      obtain ⟨t9, e_t9, h⟩ := bn h
      refine gf_X2_41 hC hG hM e_t9 dX2_addPart_28 ?_
      refine lv_iconst (v := 1) hx hb dX2_addPart_31 (by decide) ?_
      refine lv_iload_n hx hb dX2_addPart_32 rfl (lv_at hl 2 rfl) ?_
      refine lv_ishl hx hb dX2_addPart_33 ?_
      refine lv_ior hx hb dX2_addPart_34 ?_
      obtain ⟨m10, e_m10, h⟩ := bn h
      refine pf_X2_41 hC hG hM e_m10 dX2_addPart_35 (fun H locs hM => ?_)
      exact wX2_addPart_b38 hC hG hR Kr _ _ _ _ _ h hM (lv_sub hl [0] rfl)
  · rw [if_pos c3] at h
    refine lr_null (ad := ad) hx hb dX2_addPart_9 ?_
    obtain ⟨rfl, rfl⟩ := Prod.mk.inj (Option.some.inj h)
    exact Kr _ _ _ _ dX2_addPart_10 hM
theorem cX2_addPart_ok {l : Launch} {D : va_G} {cy : Nat → ClassId} {ad : Nat → Nat} {A : Nat → Prop} {z : Nat} {r : Option Nat} {σ' : Mem} {o0 : Nat} {x1 : Int32} {σ : Mem} (h : fX2_addPart o0 x1 σ = some (r, σ')) : CtR l yX2_addPart cX2_addPart 3 (some (.object "TariffDesk$Part")) 1 [.ref (ad o0), .int x1] D cy ad A z σ r σ' :=
  enterR (own := RX2) (by decide) rfl (Nat.le_of_ble_eq_true rfl) (rtt := (.object "TariffDesk$Part")) rfl (Or.inl ⟨_, rfl⟩) (fun p e s m below meth c Q ls hC hG hM Kr hl => wX2_addPart hC hG ⟨Nat.le_refl _, Nat.le_refl _⟩ Kr _ _ _ _ _ _ h hM hl)
/-! X2_mayBeginIn (I)Z -/
def fX2_mayBeginIn (o0 : Nat) (x1 : Int32) (σ : Mem) : Option (Int32 × Mem) :=
  (fI σ 2 5 (some o0)).bind fun t1 =>
    (fI σ 2 6 (some o0)).bind fun t2 =>
    b2 (fX8_isWithin x1 t1 t2 σ) fun t3 m4 =>
    if t3 = 0 ∨ t3 = 1 then some (t3, m4) else none
set_option maxRecDepth 20000 in
theorem wX2_mayBeginIn {r : Int32} {σ' : Mem} (hC : CallFix p m c cX2_mayBeginIn 2 s args WALL RX2) (hG : GS D cy A s) (hR : 1 ≤ R.frames ∧ 36 ≤ R.locals) (Kr : KrZ p l e R s m args below meth c cX2_mayBeginIn Q D cy ad A z r σ') (o0 : Nat) (x1 : Int32) (σ : Mem) (H : Heap) (locs : List Loc) (ls : Array Slot) (h : fX2_mayBeginIn o0 x1 σ = some (r, σ')) (hM : MS D cy ad A s.heap z σ H locs) (hl : lv_has ls 2 [(0, va_rf (Option.map ad (some o0))), (1, .int x1)]) : W p l e R s m args below meth c H locs 0 0 Q (F0 m 0 ls []) := by
  have hx := hC.1
  have hb := hC.2.1
  unfold fX2_mayBeginIn at h
  refine lv_iload_n hx hb dX2_mayBeginIn_0 rfl (lv_at hl 1 rfl) ?_
  refine lr_aload_n hx hb dX2_mayBeginIn_1 rfl (lv_at hl 0 rfl) ?_
  obtain ⟨t1, e_t1, h⟩ := bn h
  refine gf_X2_35 hC hG hM e_t1 dX2_mayBeginIn_2 ?_
  refine lr_aload_n hx hb dX2_mayBeginIn_5 rfl (lv_at hl 0 rfl) ?_
  obtain ⟨t2, e_t2, h⟩ := bn h
  refine gf_X2_38 hC hG hM e_t2 dX2_mayBeginIn_6 ?_
  obtain ⟨t3, m4, e_m4, h⟩ := b2_elim h
  refine cs_X2_44 hC hG hM (cX8_isWithin_ok e_m4) ⟨by omega, by omega⟩ hl.1 (by first | exact Nat.le_of_ble_eq_true rfl | simp [va_cat, vcI, vcL, vcR]) dX2_mayBeginIn_9 (fun H locs hM => ?_)
  by_cases c5 : t3 = 0 ∨ t3 = 1
  · rw [if_pos c5] at h
    cases h
    exact Kr _ _ _ _ dX2_mayBeginIn_12 (nar01 c5) hM
  · rw [if_neg c5] at h
    cases h
theorem cX2_mayBeginIn_ok {l : Launch} {D : va_G} {cy : Nat → ClassId} {ad : Nat → Nat} {A : Nat → Prop} {z : Nat} {r : Int32} {σ' : Mem} {o0 : Nat} {x1 : Int32} {σ : Mem} (h : fX2_mayBeginIn o0 x1 σ = some (r, σ')) : CtI l yX2_mayBeginIn cX2_mayBeginIn 2 (some .boolean) 1 [.ref (ad o0), .int x1] D cy ad A z σ r σ' :=
  enterZ (own := RX2) (by decide) rfl (Nat.le_of_ble_eq_true rfl) rfl (fun p e s m below meth c Q ls hC hG hM Kr hl => wX2_mayBeginIn hC hG ⟨Nat.le_refl _, Nat.le_refl _⟩ Kr _ _ _ _ _ _ h hM hl)
/-! X2_partFor (I)LTariffDesk$Part; -/
def fX2_partFor_b20    (σ : Mem) : Option (Option Nat × Mem) :=
  some (none, σ)
set_option maxRecDepth 20000 in
theorem wX2_partFor_b20 {r : Option Nat} {σ' : Mem} (hC : CallFix p m c cX2_partFor 2 s args WALL RX2) (hG : GS D cy A s) (hR : 1 ≤ R.frames ∧ 36 ≤ R.locals) (Kr : KrR p l e R s m args below meth c cX2_partFor Q D cy ad A z r σ')    (σ : Mem) (H : Heap) (locs : List Loc) (ls : Array Slot) (h : fX2_partFor_b20  σ = some (r, σ')) (hM : MS D cy ad A s.heap z σ H locs) (hl : lv_has ls 2 []) : W p l e R s m args below meth c H locs 0 0 Q (F0 m 20 ls []) := by
  have hx := hC.1
  have hb := hC.2.1
  unfold fX2_partFor_b20 at h
  refine lr_null (ad := ad) hx hb dX2_partFor_20 ?_
  obtain ⟨rfl, rfl⟩ := Prod.mk.inj (Option.some.inj h)
  exact Kr _ _ _ _ dX2_partFor_21 hM
def fX2_partFor (o0 : Nat) (x1 : Int32) (σ : Mem) : Option (Option Nat × Mem) :=
  b2 (fX8_isWithin x1 0 3 σ) fun t1 m2 =>
    if t1 = 0 then fX2_partFor_b20 m2
    else (fI m2 2 7 (some o0)).bind fun t4 =>
      if ((t4 >>> (x1 &&& 31)) &&& 1) = 0 then fX2_partFor_b20 m2
      else (fR m2 2 0 (some o0)).bind fun t6 =>
        (aR m2 14 t6 x1).bind fun t7 =>
        some (t7, m2)
set_option maxRecDepth 20000 in
theorem wX2_partFor {r : Option Nat} {σ' : Mem} (hC : CallFix p m c cX2_partFor 2 s args WALL RX2) (hG : GS D cy A s) (hR : 1 ≤ R.frames ∧ 36 ≤ R.locals) (Kr : KrR p l e R s m args below meth c cX2_partFor Q D cy ad A z r σ') (o0 : Nat) (x1 : Int32) (σ : Mem) (H : Heap) (locs : List Loc) (ls : Array Slot) (h : fX2_partFor o0 x1 σ = some (r, σ')) (hM : MS D cy ad A s.heap z σ H locs) (hl : lv_has ls 2 [(0, va_rf (Option.map ad (some o0))), (1, .int x1)]) : W p l e R s m args below meth c H locs 0 0 Q (F0 m 0 ls []) := by
  have hx := hC.1
  have hb := hC.2.1
  unfold fX2_partFor at h
  refine lv_iload_n hx hb dX2_partFor_0 rfl (lv_at hl 1 rfl) ?_
  refine lv_iconst (v := 0) hx hb dX2_partFor_1 (by decide) ?_
  refine lv_iconst (v := 3) hx hb dX2_partFor_2 (by decide) ?_
  obtain ⟨t1, m2, e_m2, h⟩ := b2_elim h
  refine cs_X2_44 hC hG hM (cX8_isWithin_ok e_m2) ⟨by omega, by omega⟩ hl.1 (by first | exact Nat.le_of_ble_eq_true rfl | simp [va_cat, vcI, vcL, vcR]) dX2_partFor_3 (fun H locs hM => ?_)
  refine lv_if_eq (tgt := 20) hx hb dX2_partFor_6 (by decide) (fun c3 => ?_) (fun c3 => ?_)
  · rw [if_pos c3] at h
    exact wX2_partFor_b20 hC hG hR Kr _ _ _ _ h hM (lv_sub hl [] rfl)
  · rw [if_neg c3] at h
    refine lr_aload_n hx hb dX2_partFor_9 rfl (lv_at hl 0 rfl) ?_
    obtain ⟨t4, e_t4, h⟩ := bn h
    refine gf_X2_41 hC hG hM e_t4 dX2_partFor_10 ?_
    refine lv_iload_n hx hb dX2_partFor_13 rfl (lv_at hl 1 rfl) ?_
    refine lv_ishr hx hb dX2_partFor_14 ?_
    refine lv_iconst (v := 1) hx hb dX2_partFor_15 (by decide) ?_
    refine lv_iand hx hb dX2_partFor_16 ?_
    refine lv_if_ne (tgt := 22) hx hb dX2_partFor_17 (by decide) (fun c5 => ?_) (fun c5 => ?_)
    · rw [if_neg c5] at h
      refine lr_aload_n hx hb dX2_partFor_22 rfl (lv_at hl 0 rfl) ?_
      obtain ⟨t6, e_t6, h⟩ := bn h
      refine gf_X2_11 hC hG hM e_t6 dX2_partFor_23 ?_
      refine lv_iload_n hx hb dX2_partFor_26 rfl (lv_at hl 1 rfl) ?_
      obtain ⟨t7, e_t7, h⟩ := bn h
      refine g_aald14 hx hb hG hM e_t7 dX2_partFor_27 ?_
      obtain ⟨rfl, rfl⟩ := Prod.mk.inj (Option.some.inj h)
      exact Kr _ _ _ _ dX2_partFor_28 hM
    · rw [if_pos c5] at h
      exact wX2_partFor_b20 hC hG hR Kr _ _ _ _ h hM (lv_sub hl [] rfl)
theorem cX2_partFor_ok {l : Launch} {D : va_G} {cy : Nat → ClassId} {ad : Nat → Nat} {A : Nat → Prop} {z : Nat} {r : Option Nat} {σ' : Mem} {o0 : Nat} {x1 : Int32} {σ : Mem} (h : fX2_partFor o0 x1 σ = some (r, σ')) : CtR l yX2_partFor cX2_partFor 2 (some (.object "TariffDesk$Part")) 1 [.ref (ad o0), .int x1] D cy ad A z σ r σ' :=
  enterR (own := RX2) (by decide) rfl (Nat.le_of_ble_eq_true rfl) (rtt := (.object "TariffDesk$Part")) rfl (Or.inl ⟨_, rfl⟩) (fun p e s m below meth c Q ls hC hG hM Kr hl => wX2_partFor hC hG ⟨Nat.le_refl _, Nat.le_refl _⟩ Kr _ _ _ _ _ _ h hM hl)
/-! X3_hasName (J)Z -/
def fX3_hasName_b40    (σ : Mem) : Option (Int32 × Mem) :=
  some (0, σ)
set_option maxRecDepth 20000 in
theorem wX3_hasName_b40 {r : Int32} {σ' : Mem} (hC : CallFix p m c cX3_hasName 5 s args WALL RX3) (hG : GS D cy A s) (hR : 1 ≤ R.frames ∧ 36 ≤ R.locals) (Kr : KrZ p l e R s m args below meth c cX3_hasName Q D cy ad A z r σ')    (σ : Mem) (H : Heap) (locs : List Loc) (ls : Array Slot) (h : fX3_hasName_b40  σ = some (r, σ')) (hM : MS D cy ad A s.heap z σ H locs) (hl : lv_has ls 5 []) : W p l e R s m args below meth c H locs 0 0 Q (F0 m 40 ls []) := by
  have hx := hC.1
  have hb := hC.2.1
  unfold fX3_hasName_b40 at h
  refine lv_iconst (v := 0) hx hb dX3_hasName_40 (by decide) ?_
  cases h
  exact Kr _ _ _ _ dX3_hasName_41 rfl hM
def fX3_hasName_b34 (rc2 : Nat → Int64 → Int32 → Mem → Option (Int32 × Mem)) (o0 : Nat) (x1 : Int64) (x3 : Int32)  (σ : Mem) : Option (Int32 × Mem) :=
  bd (x3 + 1) fun t1 =>
    rc2 o0 x1 t1 σ
set_option maxRecDepth 20000 in
theorem wX3_hasName_b34 {r : Int32} {σ' : Mem} (hC : CallFix p m c cX3_hasName 5 s args WALL RX3) (hG : GS D cy A s) (hR : 1 ≤ R.frames ∧ 36 ≤ R.locals) (Kr : KrZ p l e R s m args below meth c cX3_hasName Q D cy ad A z r σ') {rc2 : Nat → Int64 → Int32 → Mem → Option (Int32 × Mem)} (Kc2 : ∀ (o0 : Nat) (x1 : Int64) (x3 : Int32) (τ : Mem) (H : Heap) (locs : List Loc) (ls : Array Slot), rc2 o0 x1 x3 τ = some (r, σ') → MS D cy ad A s.heap z τ H locs → lv_has ls 5 [(0, va_rf (Option.map ad (some o0))), (1, .long x1), (3, .int x3)] → W p l e R s m args below meth c H locs 0 0 Q (F0 m 2 ls [])) (o0 : Nat) (x1 : Int64) (x3 : Int32)  (σ : Mem) (H : Heap) (locs : List Loc) (ls : Array Slot) (h : fX3_hasName_b34 rc2 o0 x1 x3 σ = some (r, σ')) (hM : MS D cy ad A s.heap z σ H locs) (hl : lv_has ls 5 [(0, va_rf (Option.map ad (some o0))), (1, .long x1), (3, .int x3)]) : W p l e R s m args below meth c H locs 0 0 Q (F0 m 34 ls []) := by
  have hx := hC.1
  have hb := hC.2.1
  unfold fX3_hasName_b34 at h
  obtain ⟨t1, e_t1, h⟩ := bd_elim h
  refine lv_iinc (v := t1) (lv' := [(3, .int t1), (0, va_rf (Option.map ad (some o0))), (1, .long x1)]) hx hb dX3_hasName_34 hl (k := 2) rfl (by rw [e_t1]; rfl) (by decide) (by first | rfl | simp [va_cat]) (fun ls hl => ?_)
  refine lv_goto (tgt := 2) hx hb dX3_hasName_37 (by decide) ?_
  exact Kc2 _ _ _ _ _ _ _ h hM (lv_sub hl [1, 2, 0] rfl)
def fX3_hasName_b2  : Nat → Nat → Int64 → Int32 → Mem → Option (Int32 × Mem)
  | 0, _, _, _, _ => none
  | n + 1, o0, x1, x3, σ =>
    (fI σ 3 1 (some o0)).bind fun t1 =>
      if t1 ≤ x3 then fX3_hasName_b40 σ
      else (kT σ 3 (some o0)).bind fun k3 =>
        b2 (fX3_at k3 x3 σ) fun t4 m5 =>
        if t4 = none then fX3_hasName_b34 (fX3_hasName_b2 n) o0 x1 x3 m5
        else (fJ m5 2 1 t4).bind fun t7 =>
          if t7 = x1 then some (1, m5)
          else fX3_hasName_b34 (fX3_hasName_b2 n) o0 x1 x3 m5
set_option maxRecDepth 20000 in
theorem wX3_hasName_b2 {r : Int32} {σ' : Mem} (hC : CallFix p m c cX3_hasName 5 s args WALL RX3) (hG : GS D cy A s) (hR : 1 ≤ R.frames ∧ 36 ≤ R.locals) (Kr : KrZ p l e R s m args below meth c cX3_hasName Q D cy ad A z r σ')  : ∀ (n : Nat) (o0 : Nat) (x1 : Int64) (x3 : Int32)  (σ : Mem) (H : Heap) (locs : List Loc) (ls : Array Slot), fX3_hasName_b2 n o0 x1 x3 σ = some (r, σ') → MS D cy ad A s.heap z σ H locs → lv_has ls 5 [(0, va_rf (Option.map ad (some o0))), (1, .long x1), (3, .int x3)] → W p l e R s m args below meth c H locs 0 0 Q (F0 m 2 ls []) := by
  have hx := hC.1
  have hb := hC.2.1
  intro n
  induction n with
  | zero =>
    intro o0 x1 x3 σ H locs ls h
    cases h
  | succ n ih =>
    intro o0 x1 x3 σ H locs ls h hM hl
    rw [fX3_hasName_b2] at h
    refine lv_iload_n hx hb dX3_hasName_2 rfl (lv_at hl 2 rfl) ?_
    refine lr_aload_n hx hb dX3_hasName_3 rfl (lv_at hl 0 rfl) ?_
    obtain ⟨t1, e_t1, h⟩ := bn h
    refine gf_X3_18 hC hG hM e_t1 dX3_hasName_4 ?_
    refine lv_icmp_ge (tgt := 40) hx hb dX3_hasName_7 (by decide) (fun c2 => ?_) (fun c2 => ?_)
    · rw [if_pos c2] at h
      exact wX3_hasName_b40 hC hG hR Kr _ _ _ _ h hM (lv_sub hl [] rfl)
    · rw [if_neg c2] at h
      refine lr_aload_n hx hb dX3_hasName_10 rfl (lv_at hl 0 rfl) ?_
      refine lv_iload_n hx hb dX3_hasName_11 rfl (lv_at hl 2 rfl) ?_
      obtain ⟨k3, e_k3, h⟩ := bn h
      obtain ⟨t4, m5, e_m5, h⟩ := b2_elim h
      refine cs_X3_22 e_k3 hC hG hM (cX3_at_ok e_m5) ⟨by omega, by omega⟩ hl.1 (by first | exact Nat.le_of_ble_eq_true rfl | simp [va_cat, vcI, vcL, vcR]) dX3_hasName_12 (fun H locs hM => ?_)
      refine lr_astore (lv' := [(4, va_rf (Option.map ad t4)), (0, va_rf (Option.map ad (some o0))), (1, .long x1), (3, .int x3)]) hx hb dX3_hasName_15 hl (by decide) (by first | rfl | simp [va_cat]) (fun ls hl => ?_)
      refine lr_aload hx hb dX3_hasName_17 (lv_at hl 0 rfl) ?_
      refine lr_ifnull (tgt := 34) hx hb dX3_hasName_19 (by decide) (fun c6 => ?_) (fun c6 => ?_)
      · rw [if_pos c6] at h
        exact wX3_hasName_b34 hC hG hR Kr ih _ _ _ _ _ _ _ h hM (lv_sub hl [1, 2, 3] rfl)
      · rw [if_neg c6] at h
        refine lr_aload hx hb dX3_hasName_22 (lv_at hl 0 rfl) ?_
        obtain ⟨t7, e_t7, h⟩ := bn h
        refine gf_X3_26 hC hG hM e_t7 dX3_hasName_24 ?_
        refine lv_lload_n hx hb dX3_hasName_27 rfl (lv_at hl 2 rfl) ?_
        refine lc_ne (tgt := 34) hx hb dX3_hasName_28 dX3_hasName_29 (by decide) (fun c8 => ?_) (fun c8 => ?_)
        · rw [if_neg c8] at h
          exact wX3_hasName_b34 hC hG hR Kr ih _ _ _ _ _ _ _ h hM (lv_sub hl [1, 2, 3] rfl)
        · rw [if_pos c8] at h
          refine lv_iconst (v := 1) hx hb dX3_hasName_32 (by decide) ?_
          cases h
          exact Kr _ _ _ _ dX3_hasName_33 rfl hM
def fX3_hasName (o0 : Nat) (x1 : Int64) (σ : Mem) : Option (Int32 × Mem) :=
  fX3_hasName_b2 FU o0 x1 0 σ
set_option maxRecDepth 20000 in
theorem wX3_hasName {r : Int32} {σ' : Mem} (hC : CallFix p m c cX3_hasName 5 s args WALL RX3) (hG : GS D cy A s) (hR : 1 ≤ R.frames ∧ 36 ≤ R.locals) (Kr : KrZ p l e R s m args below meth c cX3_hasName Q D cy ad A z r σ') (o0 : Nat) (x1 : Int64) (σ : Mem) (H : Heap) (locs : List Loc) (ls : Array Slot) (h : fX3_hasName o0 x1 σ = some (r, σ')) (hM : MS D cy ad A s.heap z σ H locs) (hl : lv_has ls 5 [(0, va_rf (Option.map ad (some o0))), (1, .long x1)]) : W p l e R s m args below meth c H locs 0 0 Q (F0 m 0 ls []) := by
  have hx := hC.1
  have hb := hC.2.1
  unfold fX3_hasName at h
  refine lv_iconst (v := 0) hx hb dX3_hasName_0 (by decide) ?_
  refine lv_istore_n (lv' := [(3, .int 0), (0, va_rf (Option.map ad (some o0))), (1, .long x1)]) hx hb dX3_hasName_1 rfl hl (by decide) (by first | rfl | simp [va_cat]) (fun ls hl => ?_)
  exact wX3_hasName_b2 hC hG hR Kr FU _ _ _ _ _ _ _ h hM (lv_sub hl [1, 2, 0] rfl)
theorem cX3_hasName_ok {l : Launch} {D : va_G} {cy : Nat → ClassId} {ad : Nat → Nat} {A : Nat → Prop} {z : Nat} {r : Int32} {σ' : Mem} {o0 : Nat} {x1 : Int64} {σ : Mem} (h : fX3_hasName o0 x1 σ = some (r, σ')) : CtI l yX3_hasName cX3_hasName 5 (some .boolean) 1 [.ref (ad o0), .long x1] D cy ad A z σ r σ' :=
  enterZ (own := RX3) (by decide) rfl (Nat.le_of_ble_eq_true rfl) rfl (fun p e s m below meth c Q ls hC hG hM Kr hl => wX3_hasName hC hG ⟨Nat.le_refl _, Nat.le_refl _⟩ Kr _ _ _ _ _ _ h hM hl)
/-! X3_nextPlan ()LTariffDesk$Plan; -/
def fX3_nextPlan_b36  (x1 : Option Nat)  (σ : Mem) : Option (Option Nat × Mem) :=
  some (x1, σ)
set_option maxRecDepth 20000 in
theorem wX3_nextPlan_b36 {r : Option Nat} {σ' : Mem} (hC : CallFix p m c cX3_nextPlan 2 s args WALL RX3) (hG : GS D cy A s) (hR : 1 ≤ R.frames ∧ 36 ≤ R.locals) (Kr : KrR p l e R s m args below meth c cX3_nextPlan Q D cy ad A z r σ')  (x1 : Option Nat)  (σ : Mem) (H : Heap) (locs : List Loc) (ls : Array Slot) (h : fX3_nextPlan_b36 x1 σ = some (r, σ')) (hM : MS D cy ad A s.heap z σ H locs) (hl : lv_has ls 2 [(1, va_rf (Option.map ad x1))]) : W p l e R s m args below meth c H locs 0 0 Q (F0 m 36 ls []) := by
  have hx := hC.1
  have hb := hC.2.1
  unfold fX3_nextPlan_b36 at h
  refine lr_aload_n hx hb dX3_nextPlan_36 rfl (lv_at hl 0 rfl) ?_
  obtain ⟨rfl, rfl⟩ := Prod.mk.inj (Option.some.inj h)
  exact Kr _ _ _ _ dX3_nextPlan_37 hM
def fX3_nextPlan_b16    (σ : Mem) : Option (Option Nat × Mem) :=
  some (none, σ)
set_option maxRecDepth 20000 in
theorem wX3_nextPlan_b16 {r : Option Nat} {σ' : Mem} (hC : CallFix p m c cX3_nextPlan 2 s args WALL RX3) (hG : GS D cy A s) (hR : 1 ≤ R.frames ∧ 36 ≤ R.locals) (Kr : KrR p l e R s m args below meth c cX3_nextPlan Q D cy ad A z r σ')    (σ : Mem) (H : Heap) (locs : List Loc) (ls : Array Slot) (h : fX3_nextPlan_b16  σ = some (r, σ')) (hM : MS D cy ad A s.heap z σ H locs) (hl : lv_has ls 2 []) : W p l e R s m args below meth c H locs 0 0 Q (F0 m 16 ls []) := by
  have hx := hC.1
  have hb := hC.2.1
  unfold fX3_nextPlan_b16 at h
  refine lr_null (ad := ad) hx hb dX3_nextPlan_16 ?_
  obtain ⟨rfl, rfl⟩ := Prod.mk.inj (Option.some.inj h)
  exact Kr _ _ _ _ dX3_nextPlan_17 hM
def fX3_nextPlan (o0 : Nat) (σ : Mem) : Option (Option Nat × Mem) :=
  (fI σ 3 1 (some o0)).bind fun t1 =>
    if t1 < 0 then fX3_nextPlan_b16 σ
    else (fI σ 3 1 (some o0)).bind fun t3 =>
      if t3 < 10 then (fR σ 3 0 (some o0)).bind fun t5 =>
        (fI σ 3 1 (some o0)).bind fun t6 =>
        (aR σ 15 t5 t6).bind fun t7 =>
        if t7 = none then fX3_nextPlan_b36 t7 σ
        else (kT σ 2 t7).bind fun k9 =>
          (fX2_clear k9 σ).bind fun m10 =>
          fX3_nextPlan_b36 t7 m10
      else fX3_nextPlan_b16 σ
set_option maxRecDepth 20000 in
theorem wX3_nextPlan {r : Option Nat} {σ' : Mem} (hC : CallFix p m c cX3_nextPlan 2 s args WALL RX3) (hG : GS D cy A s) (hR : 1 ≤ R.frames ∧ 36 ≤ R.locals) (Kr : KrR p l e R s m args below meth c cX3_nextPlan Q D cy ad A z r σ') (o0 : Nat) (σ : Mem) (H : Heap) (locs : List Loc) (ls : Array Slot) (h : fX3_nextPlan o0 σ = some (r, σ')) (hM : MS D cy ad A s.heap z σ H locs) (hl : lv_has ls 2 [(0, va_rf (Option.map ad (some o0)))]) : W p l e R s m args below meth c H locs 0 0 Q (F0 m 0 ls []) := by
  have hx := hC.1
  have hb := hC.2.1
  unfold fX3_nextPlan at h
  refine lr_aload_n hx hb dX3_nextPlan_0 rfl (lv_at hl 0 rfl) ?_
  obtain ⟨t1, e_t1, h⟩ := bn h
  refine gf_X3_18 hC hG hM e_t1 dX3_nextPlan_1 ?_
  refine lv_if_lt (tgt := 16) hx hb dX3_nextPlan_4 (by decide) (fun c2 => ?_) (fun c2 => ?_)
  · rw [if_pos c2] at h
    exact wX3_nextPlan_b16 hC hG hR Kr _ _ _ _ h hM (lv_sub hl [] rfl)
  · rw [if_neg c2] at h
    refine lr_aload_n hx hb dX3_nextPlan_7 rfl (lv_at hl 0 rfl) ?_
    obtain ⟨t3, e_t3, h⟩ := bn h
    refine gf_X3_18 hC hG hM e_t3 dX3_nextPlan_8 ?_
    refine lv_bipush (v := 10) hx hb dX3_nextPlan_11 (by decide) ?_
    refine lv_icmp_lt (tgt := 18) hx hb dX3_nextPlan_13 (by decide) (fun c4 => ?_) (fun c4 => ?_)
    · rw [if_pos c4] at h
      refine lr_aload_n hx hb dX3_nextPlan_18 rfl (lv_at hl 0 rfl) ?_
      obtain ⟨t5, e_t5, h⟩ := bn h
      refine gf_X3_11 hC hG hM e_t5 dX3_nextPlan_19 ?_
      refine lr_aload_n hx hb dX3_nextPlan_22 rfl (lv_at hl 0 rfl) ?_
      obtain ⟨t6, e_t6, h⟩ := bn h
      refine gf_X3_18 hC hG hM e_t6 dX3_nextPlan_23 ?_
      obtain ⟨t7, e_t7, h⟩ := bn h
      refine g_aald15 hx hb hG hM e_t7 dX3_nextPlan_26 ?_
      refine lr_astore_n (lv' := [(1, va_rf (Option.map ad t7)), (0, va_rf (Option.map ad (some o0)))]) hx hb dX3_nextPlan_27 rfl hl (by decide) (by first | rfl | simp [va_cat]) (fun ls hl => ?_)
      refine lr_aload_n hx hb dX3_nextPlan_28 rfl (lv_at hl 0 rfl) ?_
      refine lr_ifnull (tgt := 36) hx hb dX3_nextPlan_29 (by decide) (fun c8 => ?_) (fun c8 => ?_)
      · rw [if_pos c8] at h
        exact wX3_nextPlan_b36 hC hG hR Kr _ _ _ _ _ h hM (lv_sub hl [0] rfl)
      · rw [if_neg c8] at h
        refine lr_aload_n hx hb dX3_nextPlan_32 rfl (lv_at hl 0 rfl) ?_
        obtain ⟨k9, e_k9, h⟩ := bn h
        obtain ⟨m10, e_m10, h⟩ := bn h
        refine cs_X3_30 e_k9 hC hG hM (cX2_clear_ok e_m10) ⟨by omega, by omega⟩ hl.1 (by first | exact Nat.le_of_ble_eq_true rfl | simp [va_cat, vcI, vcL, vcR]) dX3_nextPlan_33 (fun H locs hM => ?_)
        exact wX3_nextPlan_b36 hC hG hR Kr _ _ _ _ _ h hM (lv_sub hl [0] rfl)
    · rw [if_neg c4] at h
      exact wX3_nextPlan_b16 hC hG hR Kr _ _ _ _ h hM (lv_sub hl [] rfl)
theorem cX3_nextPlan_ok {l : Launch} {D : va_G} {cy : Nat → ClassId} {ad : Nat → Nat} {A : Nat → Prop} {z : Nat} {r : Option Nat} {σ' : Mem} {o0 : Nat} {σ : Mem} (h : fX3_nextPlan o0 σ = some (r, σ')) : CtR l yX3_nextPlan cX3_nextPlan 2 (some (.object "TariffDesk$Plan")) 1 [.ref (ad o0)] D cy ad A z σ r σ' :=
  enterR (own := RX3) (by decide) rfl (Nat.le_of_ble_eq_true rfl) (rtt := (.object "TariffDesk$Plan")) rfl (Or.inl ⟨_, rfl⟩) (fun p e s m below meth c Q ls hC hG hM Kr hl => wX3_nextPlan hC hG ⟨Nat.le_refl _, Nat.le_refl _⟩ Kr _ _ _ _ _ h hM hl)
end WK
