section WK
variable {p : Program} {l : Launch} {e : Env} {R : Room} {s : State} {m : MethodId} {args : Array Value} {below : List Frame} {meth : Method} {c : Code} {Q : State → Prop}
variable {D : va_G} {cy : Nat → ClassId} {ad : Nat → Nat} {A : Nat → Prop} {z : Nat}
/-! X4_leastBehind (I)I -/
def fX4_leastBehind_b77   (y0 : Int32) (σ : Mem) : Option (Int32 × Mem) :=
  some (y0, σ)
set_option maxRecDepth 20000 in
theorem wX4_leastBehind_b77 {r : Int32} {σ' : Mem} (hC : CallFix p m c cX4_leastBehind 2 s args WALL RX4) (hG : GS D cy A s) (hR : 1 ≤ R.frames ∧ 36 ≤ R.locals) (Kr : KrI p l e R s m args below meth c cX4_leastBehind Q D cy ad A z r σ')   (y0 : Int32) (σ : Mem) (H : Heap) (locs : List Loc) (ls : Array Slot) (h : fX4_leastBehind_b77 y0 σ = some (r, σ')) (hM : MS D cy ad A s.heap z σ H locs) (hl : lv_has ls 2 []) : W p l e R s m args below meth c H locs 0 0 Q (F0 m 77 ls [.int y0]) := by
  have hx := hC.1
  have hb := hC.2.1
  unfold fX4_leastBehind_b77 at h
  obtain ⟨rfl, rfl⟩ := Prod.mk.inj (Option.some.inj h)
  exact Kr _ _ _ _ dX4_leastBehind_77 hM
def fX4_leastBehind_b56   (y0 : Int32) (σ : Mem) : Option (Int32 × Mem) :=
  some (y0, σ)
set_option maxRecDepth 20000 in
theorem wX4_leastBehind_b56 {r : Int32} {σ' : Mem} (hC : CallFix p m c cX4_leastBehind 2 s args WALL RX4) (hG : GS D cy A s) (hR : 1 ≤ R.frames ∧ 36 ≤ R.locals) (Kr : KrI p l e R s m args below meth c cX4_leastBehind Q D cy ad A z r σ')   (y0 : Int32) (σ : Mem) (H : Heap) (locs : List Loc) (ls : Array Slot) (h : fX4_leastBehind_b56 y0 σ = some (r, σ')) (hM : MS D cy ad A s.heap z σ H locs) (hl : lv_has ls 2 []) : W p l e R s m args below meth c H locs 0 0 Q (F0 m 56 ls [.int y0]) := by
  have hx := hC.1
  have hb := hC.2.1
  unfold fX4_leastBehind_b56 at h
  obtain ⟨rfl, rfl⟩ := Prod.mk.inj (Option.some.inj h)
  exact Kr _ _ _ _ dX4_leastBehind_56 hM
def fX4_leastBehind (o0 : Nat) (x1 : Int32) (σ : Mem) : Option (Int32 × Mem) :=
  (if x1 = 2 then some (1, σ) else if x1 = 4 then (fR σ 4 2 (some o0)).bind fun t3 =>
        if t3 = none then fX4_leastBehind_b56 0 σ
        else (fR σ 4 2 (some o0)).bind fun t5 =>
          (fI σ 2 5 t5).bind fun t6 =>
          fX4_leastBehind_b56 t6 σ else if x1 = 7 then (fR σ 4 3 (some o0)).bind fun t8 =>
          if t8 = none then fX4_leastBehind_b77 1 σ
          else (fR σ 4 3 (some o0)).bind fun t10 =>
            (kT σ 0 t10).bind fun k11 =>
            b2 (fX0_lastEnd k11 σ) fun t12 m13 =>
            fX4_leastBehind_b77 (t12 + 1) m13 else some (0, σ))
set_option maxRecDepth 20000 in
theorem wX4_leastBehind {r : Int32} {σ' : Mem} (hC : CallFix p m c cX4_leastBehind 2 s args WALL RX4) (hG : GS D cy A s) (hR : 1 ≤ R.frames ∧ 36 ≤ R.locals) (Kr : KrI p l e R s m args below meth c cX4_leastBehind Q D cy ad A z r σ') (o0 : Nat) (x1 : Int32) (σ : Mem) (H : Heap) (locs : List Loc) (ls : Array Slot) (h : fX4_leastBehind o0 x1 σ = some (r, σ')) (hM : MS D cy ad A s.heap z σ H locs) (hl : lv_has ls 2 [(0, va_rf (Option.map ad (some o0))), (1, .int x1)]) : W p l e R s m args below meth c H locs 0 0 Q (F0 m 0 ls []) := by
  have hx := hC.1
  have hb := hC.2.1
  unfold fX4_leastBehind at h
  refine lv_iload_n hx hb dX4_leastBehind_0 rfl (lv_at hl 1 rfl) ?_
  by_cases c1 : x1 = 2
  · rw [if_pos c1] at h
    refine lv_lookup (off := 35) (tgt := 36) hx hb dX4_leastBehind_1 (by decide) (by first | (rw [c1]; done) | (rw [c1]; rfl)) (by decide) ?_
    refine lv_iconst (v := 1) hx hb dX4_leastBehind_36 (by decide) ?_
    obtain ⟨rfl, rfl⟩ := Prod.mk.inj (Option.some.inj h)
    exact Kr _ _ _ _ dX4_leastBehind_37 hM
  · rw [if_neg c1] at h
    by_cases c2 : x1 = 4
    · rw [if_pos c2] at h
      refine lv_lookup (off := 37) (tgt := 38) hx hb dX4_leastBehind_1 (by decide) (by first | (rw [c2]; done) | (rw [c2]; rfl)) (by decide) ?_
      refine lr_aload_n hx hb dX4_leastBehind_38 rfl (lv_at hl 0 rfl) ?_
      obtain ⟨t3, e_t3, h⟩ := bn h
      refine gf_X4_56 hC hG hM e_t3 dX4_leastBehind_39 ?_
      refine lr_ifnonnull (tgt := 49) hx hb dX4_leastBehind_42 (by decide) (fun c4 => ?_) (fun c4 => ?_)
      · rw [if_neg c4] at h
        refine lr_aload_n hx hb dX4_leastBehind_49 rfl (lv_at hl 0 rfl) ?_
        obtain ⟨t5, e_t5, h⟩ := bn h
        refine gf_X4_56 hC hG hM e_t5 dX4_leastBehind_50 ?_
        obtain ⟨t6, e_t6, h⟩ := bn h
        refine gf_X4_119 hC hG hM e_t6 dX4_leastBehind_53 ?_
        exact wX4_leastBehind_b56 hC hG hR Kr _ _ _ _ _ h hM (lv_sub hl [] rfl)
      · rw [if_pos c4] at h
        refine lv_iconst (v := 0) hx hb dX4_leastBehind_45 (by decide) ?_
        refine lv_goto (tgt := 56) hx hb dX4_leastBehind_46 (by decide) ?_
        exact wX4_leastBehind_b56 hC hG hR Kr _ _ _ _ _ h hM (lv_sub hl [] rfl)
    · rw [if_neg c2] at h
      by_cases c7 : x1 = 7
      · rw [if_pos c7] at h
        refine lv_lookup (off := 56) (tgt := 57) hx hb dX4_leastBehind_1 (by decide) (by first | (rw [c7]; done) | (rw [c7]; rfl)) (by decide) ?_
        refine lr_aload_n hx hb dX4_leastBehind_57 rfl (lv_at hl 0 rfl) ?_
        obtain ⟨t8, e_t8, h⟩ := bn h
        refine gf_X4_63 hC hG hM e_t8 dX4_leastBehind_58 ?_
        refine lr_ifnonnull (tgt := 68) hx hb dX4_leastBehind_61 (by decide) (fun c9 => ?_) (fun c9 => ?_)
        · rw [if_neg c9] at h
          refine lr_aload_n hx hb dX4_leastBehind_68 rfl (lv_at hl 0 rfl) ?_
          obtain ⟨t10, e_t10, h⟩ := bn h
          refine gf_X4_63 hC hG hM e_t10 dX4_leastBehind_69 ?_
          obtain ⟨k11, e_k11, h⟩ := bn h
          obtain ⟨t12, m13, e_m13, h⟩ := b2_elim h
          refine cs_X4_122 e_k11 hC hG hM (cX0_lastEnd_ok e_m13) ⟨by omega, by omega⟩ hl.1 (by first | exact Nat.le_of_ble_eq_true rfl | simp [va_cat, vcI, vcL, vcR]) dX4_leastBehind_72 (fun H locs hM => ?_)
          refine lv_iconst (v := 1) hx hb dX4_leastBehind_75 (by decide) ?_
          refine lv_iadd hx hb dX4_leastBehind_76 ?_
          exact wX4_leastBehind_b77 hC hG hR Kr _ _ _ _ _ h hM (lv_sub hl [] rfl)
        · rw [if_pos c9] at h
          refine lv_iconst (v := 1) hx hb dX4_leastBehind_64 (by decide) ?_
          refine lv_goto (tgt := 77) hx hb dX4_leastBehind_65 (by decide) ?_
          exact wX4_leastBehind_b77 hC hG hR Kr _ _ _ _ _ h hM (lv_sub hl [] rfl)
      · rw [if_neg c7] at h
        refine lv_lookup (off := 77) (tgt := 78) hx hb dX4_leastBehind_1 (by decide) (by show Op.lookupswitch.offset [(2, 35), (4, 37), (7, 56)] 77 _ = _; first | (rw [lv_osw c1 (show ((2 : Int32)).toInt = 2 from rfl), lv_osw c2 (show ((4 : Int32)).toInt = 4 from rfl), lv_osw c7 (show ((7 : Int32)).toInt = 7 from rfl)]; done) | (rw [lv_osw c1 (show ((2 : Int32)).toInt = 2 from rfl), lv_osw c2 (show ((4 : Int32)).toInt = 4 from rfl), lv_osw c7 (show ((7 : Int32)).toInt = 7 from rfl)]; rfl)) (by decide) ?_
        refine lv_iconst (v := 0) hx hb dX4_leastBehind_78 (by decide) ?_
        obtain ⟨rfl, rfl⟩ := Prod.mk.inj (Option.some.inj h)
        exact Kr _ _ _ _ dX4_leastBehind_79 hM
theorem cX4_leastBehind_ok {l : Launch} {D : va_G} {cy : Nat → ClassId} {ad : Nat → Nat} {A : Nat → Prop} {z : Nat} {r : Int32} {σ' : Mem} {o0 : Nat} {x1 : Int32} {σ : Mem} (h : fX4_leastBehind o0 x1 σ = some (r, σ')) : CtI l yX4_leastBehind cX4_leastBehind 2 (some .int) 1 [.ref (ad o0), .int x1] D cy ad A z σ r σ' :=
  enterI (own := RX4) (by decide) rfl (Nat.le_of_ble_eq_true rfl) rfl (fun p e s m below meth c Q ls hC hG hM Kr hl => wX4_leastBehind hC hG ⟨Nat.le_refl _, Nat.le_refl _⟩ Kr _ _ _ _ _ _ h hM hl)
/-! X4_putInPart (I)V -/
def fX4_putInPart_b96    (σ : Mem) : Option (Mem) :=
  some σ
set_option maxRecDepth 20000 in
theorem wX4_putInPart_b96 {σ' : Mem} (hC : CallFix p m c cX4_putInPart 2 s args WALL RX4) (hG : GS D cy A s) (hR : 1 ≤ R.frames ∧ 36 ≤ R.locals) (Kr : KrV p l e R s m args below meth c cX4_putInPart Q D cy ad A z () σ')    (σ : Mem) (H : Heap) (locs : List Loc) (ls : Array Slot) (h : fX4_putInPart_b96  σ = some σ') (hM : MS D cy ad A s.heap z σ H locs) (hl : lv_has ls 2 []) : W p l e R s m args below meth c H locs 0 0 Q (F0 m 96 ls []) := by
  have hx := hC.1
  have hb := hC.2.1
  unfold fX4_putInPart_b96 at h
  cases h
  exact Kr _ _ _ _ dX4_putInPart_96 hM
def fX4_putInPart (o0 : Nat) (x1 : Int32) (σ : Mem) : Option (Mem) :=
  (fR σ 4 3 (some o0)).bind fun t1 =>
    if t1 = none then some σ
    else (if x1 = 6 then (fR σ 4 3 (some o0)).bind fun t4 =>
        (fI σ 4 10 (some o0)).bind fun t5 =>
        (pI σ 0 2 t4 t5).bind fun m6 =>
        fX4_putInPart_b96 m6 else if x1 = 7 then (fR σ 4 3 (some o0)).bind fun t8 =>
          (fI σ 4 10 (some o0)).bind fun t9 =>
          (kT σ 0 t8).bind fun k10 =>
          (fX0_addStep k10 t9 σ).bind fun m11 =>
          fX4_putInPart_b96 m11 else if x1 = 8 then (fR σ 4 3 (some o0)).bind fun t13 =>
            (fI σ 4 10 (some o0)).bind fun t14 =>
            (kT σ 0 t13).bind fun k15 =>
            (fX0_priceLastStep k15 t14 σ).bind fun m16 =>
            fX4_putInPart_b96 m16 else if x1 = 9 then (fR σ 4 3 (some o0)).bind fun t18 =>
              (fI σ 4 10 (some o0)).bind fun t19 =>
              (pI σ 0 4 t18 t19).bind fun m20 =>
              fX4_putInPart_b96 m20 else fX4_putInPart_b96 σ)
set_option maxRecDepth 20000 in
theorem wX4_putInPart {σ' : Mem} (hC : CallFix p m c cX4_putInPart 2 s args WALL RX4) (hG : GS D cy A s) (hR : 1 ≤ R.frames ∧ 36 ≤ R.locals) (Kr : KrV p l e R s m args below meth c cX4_putInPart Q D cy ad A z () σ') (o0 : Nat) (x1 : Int32) (σ : Mem) (H : Heap) (locs : List Loc) (ls : Array Slot) (h : fX4_putInPart o0 x1 σ = some σ') (hM : MS D cy ad A s.heap z σ H locs) (hl : lv_has ls 2 [(0, va_rf (Option.map ad (some o0))), (1, .int x1)]) : W p l e R s m args below meth c H locs 0 0 Q (F0 m 0 ls []) := by
  have hx := hC.1
  have hb := hC.2.1
  unfold fX4_putInPart at h
  refine lr_aload_n hx hb dX4_putInPart_0 rfl (lv_at hl 0 rfl) ?_
  obtain ⟨t1, e_t1, h⟩ := bn h
  refine gf_X4_63 hC hG hM e_t1 dX4_putInPart_1 ?_
  refine lr_ifnonnull (tgt := 8) hx hb dX4_putInPart_4 (by decide) (fun c2 => ?_) (fun c2 => ?_)
  · rw [if_neg c2] at h
    refine lv_iload_n hx hb dX4_putInPart_8 rfl (lv_at hl 1 rfl) ?_
    by_cases c3 : x1 = 6
    · rw [if_pos c3] at h
      refine lv_tableIn (tgt := 40) hx hb dX4_putInPart_9 (by rw [c3]; decide) (by rw [c3]; decide) (by rw [c3]; rfl) (by decide) ?_
      refine lr_aload_n hx hb dX4_putInPart_40 rfl (lv_at hl 0 rfl) ?_
      obtain ⟨t4, e_t4, h⟩ := bn h
      refine gf_X4_63 hC hG hM e_t4 dX4_putInPart_41 ?_
      refine lr_aload_n hx hb dX4_putInPart_44 rfl (lv_at hl 0 rfl) ?_
      obtain ⟨t5, e_t5, h⟩ := bn h
      refine gf_X4_94 hC hG hM e_t5 dX4_putInPart_45 ?_
      obtain ⟨m6, e_m6, h⟩ := bn h
      refine pf_X4_139 hC hG hM e_m6 dX4_putInPart_48 (fun H locs hM => ?_)
      refine lv_goto (tgt := 96) hx hb dX4_putInPart_51 (by decide) ?_
      exact wX4_putInPart_b96 hC hG hR Kr _ _ _ _ h hM (lv_sub hl [] rfl)
    · rw [if_neg c3] at h
      by_cases c7 : x1 = 7
      · rw [if_pos c7] at h
        refine lv_tableIn (tgt := 54) hx hb dX4_putInPart_9 (by rw [c7]; decide) (by rw [c7]; decide) (by rw [c7]; rfl) (by decide) ?_
        refine lr_aload_n hx hb dX4_putInPart_54 rfl (lv_at hl 0 rfl) ?_
        obtain ⟨t8, e_t8, h⟩ := bn h
        refine gf_X4_63 hC hG hM e_t8 dX4_putInPart_55 ?_
        refine lr_aload_n hx hb dX4_putInPart_58 rfl (lv_at hl 0 rfl) ?_
        obtain ⟨t9, e_t9, h⟩ := bn h
        refine gf_X4_94 hC hG hM e_t9 dX4_putInPart_59 ?_
        obtain ⟨k10, e_k10, h⟩ := bn h
        obtain ⟨m11, e_m11, h⟩ := bn h
        refine cs_X4_142 e_k10 hC hG hM (cX0_addStep_ok e_m11) ⟨by omega, by omega⟩ hl.1 (by first | exact Nat.le_of_ble_eq_true rfl | simp [va_cat, vcI, vcL, vcR]) dX4_putInPart_62 (fun H locs hM => ?_)
        refine lv_goto (tgt := 96) hx hb dX4_putInPart_65 (by decide) ?_
        exact wX4_putInPart_b96 hC hG hR Kr _ _ _ _ h hM (lv_sub hl [] rfl)
      · rw [if_neg c7] at h
        by_cases c12 : x1 = 8
        · rw [if_pos c12] at h
          refine lv_tableIn (tgt := 68) hx hb dX4_putInPart_9 (by rw [c12]; decide) (by rw [c12]; decide) (by rw [c12]; rfl) (by decide) ?_
          refine lr_aload_n hx hb dX4_putInPart_68 rfl (lv_at hl 0 rfl) ?_
          obtain ⟨t13, e_t13, h⟩ := bn h
          refine gf_X4_63 hC hG hM e_t13 dX4_putInPart_69 ?_
          refine lr_aload_n hx hb dX4_putInPart_72 rfl (lv_at hl 0 rfl) ?_
          obtain ⟨t14, e_t14, h⟩ := bn h
          refine gf_X4_94 hC hG hM e_t14 dX4_putInPart_73 ?_
          obtain ⟨k15, e_k15, h⟩ := bn h
          obtain ⟨m16, e_m16, h⟩ := bn h
          refine cs_X4_145 e_k15 hC hG hM (cX0_priceLastStep_ok e_m16) ⟨by omega, by omega⟩ hl.1 (by first | exact Nat.le_of_ble_eq_true rfl | simp [va_cat, vcI, vcL, vcR]) dX4_putInPart_76 (fun H locs hM => ?_)
          refine lv_goto (tgt := 96) hx hb dX4_putInPart_79 (by decide) ?_
          exact wX4_putInPart_b96 hC hG hR Kr _ _ _ _ h hM (lv_sub hl [] rfl)
        · rw [if_neg c12] at h
          by_cases c17 : x1 = 9
          · rw [if_pos c17] at h
            refine lv_tableIn (tgt := 82) hx hb dX4_putInPart_9 (by rw [c17]; decide) (by rw [c17]; decide) (by rw [c17]; rfl) (by decide) ?_
            refine lr_aload_n hx hb dX4_putInPart_82 rfl (lv_at hl 0 rfl) ?_
            obtain ⟨t18, e_t18, h⟩ := bn h
            refine gf_X4_63 hC hG hM e_t18 dX4_putInPart_83 ?_
            refine lr_aload_n hx hb dX4_putInPart_86 rfl (lv_at hl 0 rfl) ?_
            obtain ⟨t19, e_t19, h⟩ := bn h
            refine gf_X4_94 hC hG hM e_t19 dX4_putInPart_87 ?_
            obtain ⟨m20, e_m20, h⟩ := bn h
            refine pf_X4_148 hC hG hM e_m20 dX4_putInPart_90 (fun H locs hM => ?_)
            refine lv_goto (tgt := 96) hx hb dX4_putInPart_93 (by decide) ?_
            exact wX4_putInPart_b96 hC hG hR Kr _ _ _ _ h hM (lv_sub hl [] rfl)
          · rw [if_neg c17] at h
            refine lv_tableOut (tgt := 96) hx hb dX4_putInPart_9 (by have n_c3 := lv_neT c3 (show (6 : Int32).toInt = 6 from rfl); have n_c7 := lv_neT c7 (show (7 : Int32).toInt = 7 from rfl); have n_c12 := lv_neT c12 (show (8 : Int32).toInt = 8 from rfl); have n_c17 := lv_neT c17 (show (9 : Int32).toInt = 9 from rfl); omega) (by decide) ?_
            exact wX4_putInPart_b96 hC hG hR Kr _ _ _ _ h hM (lv_sub hl [] rfl)
  · rw [if_pos c2] at h
    cases h
    exact Kr _ _ _ _ dX4_putInPart_7 hM
theorem cX4_putInPart_ok {l : Launch} {D : va_G} {cy : Nat → ClassId} {ad : Nat → Nat} {A : Nat → Prop} {z : Nat} {σ' : Mem} {o0 : Nat} {x1 : Int32} {σ : Mem} (h : fX4_putInPart o0 x1 σ = some σ') : CtV l yX4_putInPart cX4_putInPart 2 none 1 [.ref (ad o0), .int x1] D cy ad A z σ () σ' :=
  enterV (own := RX4) (by decide) rfl (Nat.le_of_ble_eq_true rfl) rfl (fun p e s m below meth c Q ls hC hG hM Kr hl => wX4_putInPart hC hG ⟨Nat.le_refl _, Nat.le_refl _⟩ Kr _ _ _ _ _ _ h hM hl)
/-! X4_scanRun ()V -/
def fX4_scanRun_b182    (σ : Mem) : Option (Mem) :=
  some σ
set_option maxRecDepth 20000 in
theorem wX4_scanRun_b182 {σ' : Mem} (hC : CallFix p m c cX4_scanRun 5 s args WALL RX4) (hG : GS D cy A s) (hR : 1 ≤ R.frames ∧ 36 ≤ R.locals) (Kr : KrV p l e R s m args below meth c cX4_scanRun Q D cy ad A z () σ')    (σ : Mem) (H : Heap) (locs : List Loc) (ls : Array Slot) (h : fX4_scanRun_b182  σ = some σ') (hM : MS D cy ad A s.heap z σ H locs) (hl : lv_has ls 5 []) : W p l e R s m args below meth c H locs 0 0 Q (F0 m 182 ls []) := by
  have hx := hC.1
  have hb := hC.2.1
  unfold fX4_scanRun_b182 at h
  cases h
  exact Kr _ _ _ _ dX4_scanRun_182 hM
def fX4_scanRun_b156  (o0 : Nat) (x1 : Int32)  (σ : Mem) : Option (Mem) :=
  (fI σ 4 8 (some o0)).bind fun t1 =>
    if x1 = t1 then (fI σ 4 8 (some o0)).bind fun t3 =>
      b2 (fX8_isWithin t3 1 6 σ) fun t4 m5 =>
      if t4 = 0 then fX4_scanRun_b182 m5
      else (pI m5 4 6 (some o0) 2).bind fun m7 =>
        fX4_scanRun_b182 m7
    else fX4_scanRun_b182 σ
set_option maxRecDepth 20000 in
theorem wX4_scanRun_b156 {σ' : Mem} (hC : CallFix p m c cX4_scanRun 5 s args WALL RX4) (hG : GS D cy A s) (hR : 1 ≤ R.frames ∧ 36 ≤ R.locals) (Kr : KrV p l e R s m args below meth c cX4_scanRun Q D cy ad A z () σ')  (o0 : Nat) (x1 : Int32)  (σ : Mem) (H : Heap) (locs : List Loc) (ls : Array Slot) (h : fX4_scanRun_b156 o0 x1 σ = some σ') (hM : MS D cy ad A s.heap z σ H locs) (hl : lv_has ls 5 [(0, va_rf (Option.map ad (some o0))), (1, .int x1)]) : W p l e R s m args below meth c H locs 0 0 Q (F0 m 156 ls []) := by
  have hx := hC.1
  have hb := hC.2.1
  unfold fX4_scanRun_b156 at h
  refine lv_iload_n hx hb dX4_scanRun_156 rfl (lv_at hl 1 rfl) ?_
  refine lr_aload_n hx hb dX4_scanRun_157 rfl (lv_at hl 0 rfl) ?_
  obtain ⟨t1, e_t1, h⟩ := bn h
  refine gf_X4_32 hC hG hM e_t1 dX4_scanRun_158 ?_
  refine lv_icmp_ne (tgt := 182) hx hb dX4_scanRun_161 (by decide) (fun c2 => ?_) (fun c2 => ?_)
  · rw [if_neg c2] at h
    exact wX4_scanRun_b182 hC hG hR Kr _ _ _ _ h hM (lv_sub hl [] rfl)
  · rw [if_pos c2] at h
    refine lr_aload_n hx hb dX4_scanRun_164 rfl (lv_at hl 0 rfl) ?_
    obtain ⟨t3, e_t3, h⟩ := bn h
    refine gf_X4_32 hC hG hM e_t3 dX4_scanRun_165 ?_
    refine lv_iconst (v := 1) hx hb dX4_scanRun_168 (by decide) ?_
    refine lv_bipush (v := 6) hx hb dX4_scanRun_169 (by decide) ?_
    obtain ⟨t4, m5, e_m5, h⟩ := b2_elim h
    refine cs_X4_104 hC hG hM (cX8_isWithin_ok e_m5) ⟨by omega, by omega⟩ hl.1 (by first | exact Nat.le_of_ble_eq_true rfl | simp [va_cat, vcI, vcL, vcR]) dX4_scanRun_171 (fun H locs hM => ?_)
    refine lv_if_eq (tgt := 182) hx hb dX4_scanRun_174 (by decide) (fun c6 => ?_) (fun c6 => ?_)
    · rw [if_pos c6] at h
      exact wX4_scanRun_b182 hC hG hR Kr _ _ _ _ h hM (lv_sub hl [] rfl)
    · rw [if_neg c6] at h
      refine lr_aload_n hx hb dX4_scanRun_177 rfl (lv_at hl 0 rfl) ?_
      refine lv_iconst (v := 2) hx hb dX4_scanRun_178 (by decide) ?_
      obtain ⟨m7, e_m7, h⟩ := bn h
      refine pf_X4_75 hC hG hM e_m7 dX4_scanRun_179 (fun H locs hM => ?_)
      exact wX4_scanRun_b182 hC hG hR Kr _ _ _ _ h hM (lv_sub hl [] rfl)
def fX4_scanRun_b120  (o0 : Nat) (x1 : Int32)  (σ : Mem) : Option (Mem) :=
  if x1 = 0 then (fI σ 4 8 (some o0)).bind fun t2 =>
      b2 (fX8_isWithin t2 1 8 σ) fun t3 m4 =>
      if t3 = 0 then fX4_scanRun_b156 o0 x1 m4
      else (pI m4 4 6 (some o0) 1).bind fun m6 =>
        (fJ m6 4 9 (some o0)).bind fun t7 =>
        b2 (fX4_wordOf t7 m6) fun t8 m9 =>
        (pI m9 4 11 (some o0) t8).bind fun m10 =>
        fX4_scanRun_b182 m10
    else fX4_scanRun_b156 o0 x1 σ
set_option maxRecDepth 20000 in
theorem wX4_scanRun_b120 {σ' : Mem} (hC : CallFix p m c cX4_scanRun 5 s args WALL RX4) (hG : GS D cy A s) (hR : 1 ≤ R.frames ∧ 36 ≤ R.locals) (Kr : KrV p l e R s m args below meth c cX4_scanRun Q D cy ad A z () σ')  (o0 : Nat) (x1 : Int32)  (σ : Mem) (H : Heap) (locs : List Loc) (ls : Array Slot) (h : fX4_scanRun_b120 o0 x1 σ = some σ') (hM : MS D cy ad A s.heap z σ H locs) (hl : lv_has ls 5 [(0, va_rf (Option.map ad (some o0))), (1, .int x1)]) : W p l e R s m args below meth c H locs 0 0 Q (F0 m 120 ls []) := by
  have hx := hC.1
  have hb := hC.2.1
  unfold fX4_scanRun_b120 at h
  refine lv_iload_n hx hb dX4_scanRun_120 rfl (lv_at hl 1 rfl) ?_
  refine lv_if_ne (tgt := 156) hx hb dX4_scanRun_121 (by decide) (fun c1 => ?_) (fun c1 => ?_)
  · rw [if_neg c1] at h
    exact wX4_scanRun_b156 hC hG hR Kr _ _ _ _ _ _ h hM (lv_sub hl [0, 1] rfl)
  · rw [if_pos c1] at h
    refine lr_aload_n hx hb dX4_scanRun_124 rfl (lv_at hl 0 rfl) ?_
    obtain ⟨t2, e_t2, h⟩ := bn h
    refine gf_X4_32 hC hG hM e_t2 dX4_scanRun_125 ?_
    refine lv_iconst (v := 1) hx hb dX4_scanRun_128 (by decide) ?_
    refine lv_bipush (v := 8) hx hb dX4_scanRun_129 (by decide) ?_
    obtain ⟨t3, m4, e_m4, h⟩ := b2_elim h
    refine cs_X4_104 hC hG hM (cX8_isWithin_ok e_m4) ⟨by omega, by omega⟩ hl.1 (by first | exact Nat.le_of_ble_eq_true rfl | simp [va_cat, vcI, vcL, vcR]) dX4_scanRun_131 (fun H locs hM => ?_)
    refine lv_if_eq (tgt := 156) hx hb dX4_scanRun_134 (by decide) (fun c5 => ?_) (fun c5 => ?_)
    · rw [if_pos c5] at h
      exact wX4_scanRun_b156 hC hG hR Kr _ _ _ _ _ _ h hM (lv_sub hl [0, 1] rfl)
    · rw [if_neg c5] at h
      refine lr_aload_n hx hb dX4_scanRun_137 rfl (lv_at hl 0 rfl) ?_
      refine lv_iconst (v := 1) hx hb dX4_scanRun_138 (by decide) ?_
      obtain ⟨m6, e_m6, h⟩ := bn h
      refine pf_X4_75 hC hG hM e_m6 dX4_scanRun_139 (fun H locs hM => ?_)
      refine lr_aload_n hx hb dX4_scanRun_142 rfl (lv_at hl 0 rfl) ?_
      refine lr_aload_n hx hb dX4_scanRun_143 rfl (lv_at hl 0 rfl) ?_
      obtain ⟨t7, e_t7, h⟩ := bn h
      refine gf_X4_78 hC hG hM e_t7 dX4_scanRun_144 ?_
      obtain ⟨t8, m9, e_m9, h⟩ := b2_elim h
      refine cs_X4_174 hC hG hM (cX4_wordOf_ok e_m9) ⟨by omega, by omega⟩ hl.1 (by first | exact Nat.le_of_ble_eq_true rfl | simp [va_cat, vcI, vcL, vcR]) dX4_scanRun_147 (fun H locs hM => ?_)
      obtain ⟨m10, e_m10, h⟩ := bn h
      refine pf_X4_45 hC hG hM e_m10 dX4_scanRun_150 (fun H locs hM => ?_)
      refine lv_goto (tgt := 182) hx hb dX4_scanRun_153 (by decide) ?_
      exact wX4_scanRun_b182 hC hG hR Kr _ _ _ _ h hM (lv_sub hl [] rfl)
def fX4_scanRun_b90 (rc17 : Nat → Int32 → Int32 → Mem → Option (Mem)) (o0 : Nat) (x1 : Int32) (x2 : Int32) (x3 : Int32)  (σ : Mem) : Option (Mem) :=
  (fJ σ 4 9 (some o0)).bind fun t1 =>
    (pJ σ 4 9 (some o0) ((t1 <<< (((8) : Int32).toInt64 &&& 63)) ||| ((x3 : Int32).toInt64))).bind fun m2 =>
    (fI m2 4 8 (some o0)).bind fun t3 =>
    (pI m2 4 8 (some o0) (t3 + 1)).bind fun m4 =>
    bd (x2 + 1) fun t5 =>
    rc17 o0 x1 t5 m4
set_option maxRecDepth 20000 in
theorem wX4_scanRun_b90 {σ' : Mem} (hC : CallFix p m c cX4_scanRun 5 s args WALL RX4) (hG : GS D cy A s) (hR : 1 ≤ R.frames ∧ 36 ≤ R.locals) (Kr : KrV p l e R s m args below meth c cX4_scanRun Q D cy ad A z () σ') {rc17 : Nat → Int32 → Int32 → Mem → Option (Mem)} (Kc17 : ∀ (o0 : Nat) (x1 : Int32) (x2 : Int32) (τ : Mem) (H : Heap) (locs : List Loc) (ls : Array Slot), rc17 o0 x1 x2 τ = some σ' → MS D cy ad A s.heap z τ H locs → lv_has ls 5 [(0, va_rf (Option.map ad (some o0))), (1, .int x1), (2, .int x2)] → W p l e R s m args below meth c H locs 0 0 Q (F0 m 17 ls [])) (o0 : Nat) (x1 : Int32) (x2 : Int32) (x3 : Int32)  (σ : Mem) (H : Heap) (locs : List Loc) (ls : Array Slot) (h : fX4_scanRun_b90 rc17 o0 x1 x2 x3 σ = some σ') (hM : MS D cy ad A s.heap z σ H locs) (hl : lv_has ls 5 [(0, va_rf (Option.map ad (some o0))), (1, .int x1), (2, .int x2), (3, .int x3)]) : W p l e R s m args below meth c H locs 0 0 Q (F0 m 90 ls []) := by
  have hx := hC.1
  have hb := hC.2.1
  unfold fX4_scanRun_b90 at h
  refine lr_aload_n hx hb dX4_scanRun_90 rfl (lv_at hl 0 rfl) ?_
  refine lr_aload_n hx hb dX4_scanRun_91 rfl (lv_at hl 0 rfl) ?_
  obtain ⟨t1, e_t1, h⟩ := bn h
  refine gf_X4_78 hC hG hM e_t1 dX4_scanRun_92 ?_
  refine lv_bipush (v := 8) hx hb dX4_scanRun_95 (by decide) ?_
  refine lv_lshl hx hb dX4_scanRun_97 rfl ?_
  refine lv_iload_n hx hb dX4_scanRun_98 rfl (lv_at hl 3 rfl) ?_
  refine lv_i2l hx hb dX4_scanRun_99 rfl ?_
  refine lv_lor hx hb dX4_scanRun_100 ?_
  obtain ⟨m2, e_m2, h⟩ := bn h
  refine pf_X4_78 hC hG hM e_m2 dX4_scanRun_101 (fun H locs hM => ?_)
  refine lr_aload_n hx hb dX4_scanRun_104 rfl (lv_at hl 0 rfl) ?_
  refine lv_dup hx hb dX4_scanRun_105 (va_cat _) ?_
  obtain ⟨t3, e_t3, h⟩ := bn h
  refine gf_X4_32 hC hG hM e_t3 dX4_scanRun_106 ?_
  refine lv_iconst (v := 1) hx hb dX4_scanRun_109 (by decide) ?_
  refine lv_iadd hx hb dX4_scanRun_110 ?_
  obtain ⟨m4, e_m4, h⟩ := bn h
  refine pf_X4_32 hC hG hM e_m4 dX4_scanRun_111 (fun H locs hM => ?_)
  obtain ⟨t5, e_t5, h⟩ := bd_elim h
  refine lv_iinc (v := t5) (lv' := [(2, .int t5), (0, va_rf (Option.map ad (some o0))), (1, .int x1), (3, .int x3)]) hx hb dX4_scanRun_114 hl (k := 2) rfl (by rw [e_t5]; rfl) (by decide) (by first | rfl | simp [va_cat]) (fun ls hl => ?_)
  refine lv_goto (tgt := 17) hx hb dX4_scanRun_117 (by decide) ?_
  exact Kc17 _ _ _ _ _ _ _ h hM (lv_sub hl [1, 2, 0] rfl)
def fX4_scanRun_b66 (rc17 : Nat → Int32 → Int32 → Mem → Option (Mem)) (o0 : Nat) (x1 : Int32) (x2 : Int32) (x3 : Int32) (x4 : Int32)  (σ : Mem) : Option (Mem) :=
  if x4 = 0 then fX4_scanRun_b90 rc17 o0 x1 x2 x3 σ
    else bd (x1 + 1) fun t2 =>
      (fI σ 4 10 (some o0)).bind fun t3 =>
      (pI σ 4 10 (some o0) ((t3 * 10) + (x3 - 48))).bind fun m4 =>
      fX4_scanRun_b90 rc17 o0 t2 x2 x3 m4
set_option maxRecDepth 20000 in
theorem wX4_scanRun_b66 {σ' : Mem} (hC : CallFix p m c cX4_scanRun 5 s args WALL RX4) (hG : GS D cy A s) (hR : 1 ≤ R.frames ∧ 36 ≤ R.locals) (Kr : KrV p l e R s m args below meth c cX4_scanRun Q D cy ad A z () σ') {rc17 : Nat → Int32 → Int32 → Mem → Option (Mem)} (Kc17 : ∀ (o0 : Nat) (x1 : Int32) (x2 : Int32) (τ : Mem) (H : Heap) (locs : List Loc) (ls : Array Slot), rc17 o0 x1 x2 τ = some σ' → MS D cy ad A s.heap z τ H locs → lv_has ls 5 [(0, va_rf (Option.map ad (some o0))), (1, .int x1), (2, .int x2)] → W p l e R s m args below meth c H locs 0 0 Q (F0 m 17 ls [])) (o0 : Nat) (x1 : Int32) (x2 : Int32) (x3 : Int32) (x4 : Int32)  (σ : Mem) (H : Heap) (locs : List Loc) (ls : Array Slot) (h : fX4_scanRun_b66 rc17 o0 x1 x2 x3 x4 σ = some σ') (hM : MS D cy ad A s.heap z σ H locs) (hl : lv_has ls 5 [(0, va_rf (Option.map ad (some o0))), (1, .int x1), (2, .int x2), (3, .int x3), (4, .int x4)]) : W p l e R s m args below meth c H locs 0 0 Q (F0 m 66 ls []) := by
  have hx := hC.1
  have hb := hC.2.1
  unfold fX4_scanRun_b66 at h
  refine lv_iload hx hb dX4_scanRun_66 (lv_at hl 4 rfl) ?_
  refine lv_if_eq (tgt := 90) hx hb dX4_scanRun_68 (by decide) (fun c1 => ?_) (fun c1 => ?_)
  · rw [if_pos c1] at h
    exact wX4_scanRun_b90 hC hG hR Kr Kc17 _ _ _ _ _ _ _ _ h hM (lv_sub hl [0, 1, 2, 3] rfl)
  · rw [if_neg c1] at h
    obtain ⟨t2, e_t2, h⟩ := bd_elim h
    refine lv_iinc (v := t2) (lv' := [(1, .int t2), (0, va_rf (Option.map ad (some o0))), (2, .int x2), (3, .int x3), (4, .int x4)]) hx hb dX4_scanRun_71 hl (k := 1) rfl (by rw [e_t2]; rfl) (by decide) (by first | rfl | simp [va_cat]) (fun ls hl => ?_)
    refine lr_aload_n hx hb dX4_scanRun_74 rfl (lv_at hl 1 rfl) ?_
    refine lr_aload_n hx hb dX4_scanRun_75 rfl (lv_at hl 1 rfl) ?_
    obtain ⟨t3, e_t3, h⟩ := bn h
    refine gf_X4_94 hC hG hM e_t3 dX4_scanRun_76 ?_
    refine lv_bipush (v := 10) hx hb dX4_scanRun_79 (by decide) ?_
    refine lv_imul hx hb dX4_scanRun_81 ?_
    refine lv_iload_n hx hb dX4_scanRun_82 rfl (lv_at hl 3 rfl) ?_
    refine lv_bipush (v := 48) hx hb dX4_scanRun_83 (by decide) ?_
    refine lv_isub hx hb dX4_scanRun_85 ?_
    refine lv_iadd hx hb dX4_scanRun_86 ?_
    obtain ⟨m4, e_m4, h⟩ := bn h
    refine pf_X4_94 hC hG hM e_m4 dX4_scanRun_87 (fun H locs hM => ?_)
    exact wX4_scanRun_b90 hC hG hR Kr Kc17 _ _ _ _ _ _ _ _ h hM (lv_sub hl [1, 0, 2, 3] rfl)
def fX4_scanRun_b17  : Nat → Nat → Int32 → Int32 → Mem → Option (Mem)
  | 0, _, _, _, _ => none
  | n + 1, o0, x1, x2, σ =>
    (fR σ 4 0 (some o0)).bind fun t1 =>
      (fI σ 6 1 t1).bind fun t2 =>
      if t2 ≤ x2 then fX4_scanRun_b120 o0 x1 σ
      else (fR σ 4 0 (some o0)).bind fun t4 =>
        (kT σ 6 t4).bind fun k5 =>
        b2 (fX6_byteAt k5 x2 σ) fun t6 m7 =>
        b2 (fX8_isWithin t6 48 57 m7) fun t8 m9 =>
        if t8 = 0 then b2 (fX8_isWithin t6 97 122 m9) fun t11 m12 =>
          if t11 = 0 then fX4_scanRun_b120 o0 x1 m12
          else fX4_scanRun_b66 (fX4_scanRun_b17 n) o0 x1 x2 t6 t8 m12
        else fX4_scanRun_b66 (fX4_scanRun_b17 n) o0 x1 x2 t6 t8 m9
set_option maxRecDepth 20000 in
theorem wX4_scanRun_b17 {σ' : Mem} (hC : CallFix p m c cX4_scanRun 5 s args WALL RX4) (hG : GS D cy A s) (hR : 1 ≤ R.frames ∧ 36 ≤ R.locals) (Kr : KrV p l e R s m args below meth c cX4_scanRun Q D cy ad A z () σ')  : ∀ (n : Nat) (o0 : Nat) (x1 : Int32) (x2 : Int32)  (σ : Mem) (H : Heap) (locs : List Loc) (ls : Array Slot), fX4_scanRun_b17 n o0 x1 x2 σ = some σ' → MS D cy ad A s.heap z σ H locs → lv_has ls 5 [(0, va_rf (Option.map ad (some o0))), (1, .int x1), (2, .int x2)] → W p l e R s m args below meth c H locs 0 0 Q (F0 m 17 ls []) := by
  have hx := hC.1
  have hb := hC.2.1
  intro n
  induction n with
  | zero =>
    intro o0 x1 x2 σ H locs ls h
    cases h
  | succ n ih =>
    intro o0 x1 x2 σ H locs ls h hM hl
    rw [fX4_scanRun_b17] at h
    refine lv_iload_n hx hb dX4_scanRun_17 rfl (lv_at hl 2 rfl) ?_
    refine lr_aload_n hx hb dX4_scanRun_18 rfl (lv_at hl 0 rfl) ?_
    obtain ⟨t1, e_t1, h⟩ := bn h
    refine gf_X4_9 hC hG hM e_t1 dX4_scanRun_19 ?_
    obtain ⟨t2, e_t2, h⟩ := bn h
    refine gf_X4_154 hC hG hM e_t2 dX4_scanRun_22 ?_
    refine lv_icmp_ge (tgt := 120) hx hb dX4_scanRun_25 (by decide) (fun c3 => ?_) (fun c3 => ?_)
    · rw [if_pos c3] at h
      exact wX4_scanRun_b120 hC hG hR Kr _ _ _ _ _ _ h hM (lv_sub hl [0, 1] rfl)
    · rw [if_neg c3] at h
      refine lr_aload_n hx hb dX4_scanRun_28 rfl (lv_at hl 0 rfl) ?_
      obtain ⟨t4, e_t4, h⟩ := bn h
      refine gf_X4_9 hC hG hM e_t4 dX4_scanRun_29 ?_
      refine lv_iload_n hx hb dX4_scanRun_32 rfl (lv_at hl 2 rfl) ?_
      obtain ⟨k5, e_k5, h⟩ := bn h
      obtain ⟨t6, m7, e_m7, h⟩ := b2_elim h
      refine cs_X4_159 e_k5 hC hG hM (cX6_byteAt_ok e_m7) ⟨by omega, by omega⟩ hl.1 (by first | exact Nat.le_of_ble_eq_true rfl | simp [va_cat, vcI, vcL, vcR]) dX4_scanRun_33 (fun H locs hM => ?_)
      refine lv_istore_n (lv' := [(3, .int t6), (0, va_rf (Option.map ad (some o0))), (1, .int x1), (2, .int x2)]) hx hb dX4_scanRun_36 rfl hl (by decide) (by first | rfl | simp [va_cat]) (fun ls hl => ?_)
      refine lv_iload_n hx hb dX4_scanRun_37 rfl (lv_at hl 0 rfl) ?_
      refine lv_bipush (v := 48) hx hb dX4_scanRun_38 (by decide) ?_
      refine lv_bipush (v := 57) hx hb dX4_scanRun_40 (by decide) ?_
      obtain ⟨t8, m9, e_m9, h⟩ := b2_elim h
      refine cs_X4_104 hC hG hM (cX8_isWithin_ok e_m9) ⟨by omega, by omega⟩ hl.1 (by first | exact Nat.le_of_ble_eq_true rfl | simp [va_cat, vcI, vcL, vcR]) dX4_scanRun_42 (fun H locs hM => ?_)
      refine lv_istore (lv' := [(4, .int t8), (3, .int t6), (0, va_rf (Option.map ad (some o0))), (1, .int x1), (2, .int x2)]) hx hb dX4_scanRun_45 hl (by decide) (by first | rfl | simp [va_cat]) (fun ls hl => ?_)
      refine lv_iload hx hb dX4_scanRun_47 (lv_at hl 0 rfl) ?_
      refine lv_if_ne (tgt := 66) hx hb dX4_scanRun_49 (by decide) (fun c10 => ?_) (fun c10 => ?_)
      · rw [if_neg c10] at h
        exact wX4_scanRun_b66 hC hG hR Kr ih _ _ _ _ _ _ _ _ _ h hM (lv_sub hl [2, 3, 4, 1, 0] rfl)
      · rw [if_pos c10] at h
        refine lv_iload_n hx hb dX4_scanRun_52 rfl (lv_at hl 1 rfl) ?_
        refine lv_bipush (v := 97) hx hb dX4_scanRun_53 (by decide) ?_
        refine lv_bipush (v := 122) hx hb dX4_scanRun_55 (by decide) ?_
        obtain ⟨t11, m12, e_m12, h⟩ := b2_elim h
        refine cs_X4_104 hC hG hM (cX8_isWithin_ok e_m12) ⟨by omega, by omega⟩ hl.1 (by first | exact Nat.le_of_ble_eq_true rfl | simp [va_cat, vcI, vcL, vcR]) dX4_scanRun_57 (fun H locs hM => ?_)
        refine lv_if_ne (tgt := 66) hx hb dX4_scanRun_60 (by decide) (fun c13 => ?_) (fun c13 => ?_)
        · rw [if_neg c13] at h
          exact wX4_scanRun_b66 hC hG hR Kr ih _ _ _ _ _ _ _ _ _ h hM (lv_sub hl [2, 3, 4, 1, 0] rfl)
        · rw [if_pos c13] at h
          refine lv_goto (tgt := 120) hx hb dX4_scanRun_63 (by decide) ?_
          exact wX4_scanRun_b120 hC hG hR Kr _ _ _ _ _ _ h hM (lv_sub hl [2, 3] rfl)
def fX4_scanRun (o0 : Nat) (σ : Mem) : Option (Mem) :=
  (pJ σ 4 9 (some o0) 0).bind fun m1 =>
    (pI m1 4 10 (some o0) 0).bind fun m2 =>
    (fI m2 4 7 (some o0)).bind fun t3 =>
    fX4_scanRun_b17 FU o0 0 t3 m2
set_option maxRecDepth 20000 in
theorem wX4_scanRun {σ' : Mem} (hC : CallFix p m c cX4_scanRun 5 s args WALL RX4) (hG : GS D cy A s) (hR : 1 ≤ R.frames ∧ 36 ≤ R.locals) (Kr : KrV p l e R s m args below meth c cX4_scanRun Q D cy ad A z () σ') (o0 : Nat) (σ : Mem) (H : Heap) (locs : List Loc) (ls : Array Slot) (h : fX4_scanRun o0 σ = some σ') (hM : MS D cy ad A s.heap z σ H locs) (hl : lv_has ls 5 [(0, va_rf (Option.map ad (some o0)))]) : W p l e R s m args below meth c H locs 0 0 Q (F0 m 0 ls []) := by
  have hx := hC.1
  have hb := hC.2.1
  unfold fX4_scanRun at h
  refine lv_iconst (v := 0) hx hb dX4_scanRun_0 (by decide) ?_
  refine lv_istore_n (lv' := [(1, .int 0), (0, va_rf (Option.map ad (some o0)))]) hx hb dX4_scanRun_1 rfl hl (by decide) (by first | rfl | simp [va_cat]) (fun ls hl => ?_)
  refine lr_aload_n hx hb dX4_scanRun_2 rfl (lv_at hl 1 rfl) ?_
  refine lv_lconst (v := 0) hx hb dX4_scanRun_3 (by decide) ?_
  obtain ⟨m1, e_m1, h⟩ := bn h
  refine pf_X4_78 hC hG hM e_m1 dX4_scanRun_4 (fun H locs hM => ?_)
  refine lr_aload_n hx hb dX4_scanRun_7 rfl (lv_at hl 1 rfl) ?_
  refine lv_iconst (v := 0) hx hb dX4_scanRun_8 (by decide) ?_
  obtain ⟨m2, e_m2, h⟩ := bn h
  refine pf_X4_94 hC hG hM e_m2 dX4_scanRun_9 (fun H locs hM => ?_)
  refine lr_aload_n hx hb dX4_scanRun_12 rfl (lv_at hl 1 rfl) ?_
  obtain ⟨t3, e_t3, h⟩ := bn h
  refine gf_X4_29 hC hG hM e_t3 dX4_scanRun_13 ?_
  refine lv_istore_n (lv' := [(2, .int t3), (1, .int 0), (0, va_rf (Option.map ad (some o0)))]) hx hb dX4_scanRun_16 rfl hl (by decide) (by first | rfl | simp [va_cat]) (fun ls hl => ?_)
  exact wX4_scanRun_b17 hC hG hR Kr FU _ _ _ _ _ _ _ h hM (lv_sub hl [2, 1, 0] rfl)
theorem cX4_scanRun_ok {l : Launch} {D : va_G} {cy : Nat → ClassId} {ad : Nat → Nat} {A : Nat → Prop} {z : Nat} {σ' : Mem} {o0 : Nat} {σ : Mem} (h : fX4_scanRun o0 σ = some σ') : CtV l yX4_scanRun cX4_scanRun 5 none 1 [.ref (ad o0)] D cy ad A z σ () σ' :=
  enterV (own := RX4) (by decide) rfl (Nat.le_of_ble_eq_true rfl) rfl (fun p e s m below meth c Q ls hC hG hM Kr hl => wX4_scanRun hC hG ⟨Nat.le_refl _, Nat.le_refl _⟩ Kr _ _ _ _ _ h hM hl)
/-! X5_slot (II)I -/
def fX5_slot_b30   (y0 : Int32) (σ : Mem) : Option (Int32 × Mem) :=
  some (y0, σ)
set_option maxRecDepth 20000 in
theorem wX5_slot_b30 {r : Int32} {σ' : Mem} (hC : CallFix p m c cX5_slot 2 s args WALL RX5) (hG : GS D cy A s) (hR : 1 ≤ R.frames ∧ 36 ≤ R.locals) (Kr : KrI p l e R s m args below meth c cX5_slot Q D cy ad A z r σ')   (y0 : Int32) (σ : Mem) (H : Heap) (locs : List Loc) (ls : Array Slot) (h : fX5_slot_b30 y0 σ = some (r, σ')) (hM : MS D cy ad A s.heap z σ H locs) (hl : lv_has ls 2 []) : W p l e R s m args below meth c H locs 0 0 Q (F0 m 30 ls [.int y0]) := by
  have hx := hC.1
  have hb := hC.2.1
  unfold fX5_slot_b30 at h
  obtain ⟨rfl, rfl⟩ := Prod.mk.inj (Option.some.inj h)
  exact Kr _ _ _ _ dX5_slot_30 hM
def fX5_slot_b29    (σ : Mem) : Option (Int32 × Mem) :=
  fX5_slot_b30 0 σ
set_option maxRecDepth 20000 in
theorem wX5_slot_b29 {r : Int32} {σ' : Mem} (hC : CallFix p m c cX5_slot 2 s args WALL RX5) (hG : GS D cy A s) (hR : 1 ≤ R.frames ∧ 36 ≤ R.locals) (Kr : KrI p l e R s m args below meth c cX5_slot Q D cy ad A z r σ')    (σ : Mem) (H : Heap) (locs : List Loc) (ls : Array Slot) (h : fX5_slot_b29  σ = some (r, σ')) (hM : MS D cy ad A s.heap z σ H locs) (hl : lv_has ls 2 []) : W p l e R s m args below meth c H locs 0 0 Q (F0 m 29 ls []) := by
  have hx := hC.1
  have hb := hC.2.1
  unfold fX5_slot_b29 at h
  refine lv_iconst (v := 0) hx hb dX5_slot_29 (by decide) ?_
  exact wX5_slot_b30 hC hG hR Kr _ _ _ _ _ h hM (lv_sub hl [] rfl)
def fX5_slot (x0 : Int32) (x1 : Int32) (σ : Mem) : Option (Int32 × Mem) :=
  b2 (fX8_isWithin x0 0 23 σ) fun t1 m2 =>
    if t1 = 0 then fX5_slot_b29 m2
    else b2 (fX8_isWithin x1 0 9 m2) fun t4 m5 =>
      if t4 = 0 then fX5_slot_b29 m5
      else fX5_slot_b30 ((x0 * 10) + x1) m5
set_option maxRecDepth 20000 in
theorem wX5_slot {r : Int32} {σ' : Mem} (hC : CallFix p m c cX5_slot 2 s args WALL RX5) (hG : GS D cy A s) (hR : 1 ≤ R.frames ∧ 36 ≤ R.locals) (Kr : KrI p l e R s m args below meth c cX5_slot Q D cy ad A z r σ') (x0 : Int32) (x1 : Int32) (σ : Mem) (H : Heap) (locs : List Loc) (ls : Array Slot) (h : fX5_slot x0 x1 σ = some (r, σ')) (hM : MS D cy ad A s.heap z σ H locs) (hl : lv_has ls 2 [(0, .int x0), (1, .int x1)]) : W p l e R s m args below meth c H locs 0 0 Q (F0 m 0 ls []) := by
  have hx := hC.1
  have hb := hC.2.1
  unfold fX5_slot at h
  refine lv_iload_n hx hb dX5_slot_0 rfl (lv_at hl 0 rfl) ?_
  refine lv_iconst (v := 0) hx hb dX5_slot_1 (by decide) ?_
  refine lv_bipush (v := 23) hx hb dX5_slot_2 (by decide) ?_
  obtain ⟨t1, m2, e_m2, h⟩ := b2_elim h
  refine cs_X5_82 hC hG hM (cX8_isWithin_ok e_m2) ⟨by omega, by omega⟩ hl.1 (by first | exact Nat.le_of_ble_eq_true rfl | simp [va_cat, vcI, vcL, vcR]) dX5_slot_4 (fun H locs hM => ?_)
  refine lv_if_eq (tgt := 29) hx hb dX5_slot_7 (by decide) (fun c3 => ?_) (fun c3 => ?_)
  · rw [if_pos c3] at h
    exact wX5_slot_b29 hC hG hR Kr _ _ _ _ h hM (lv_sub hl [] rfl)
  · rw [if_neg c3] at h
    refine lv_iload_n hx hb dX5_slot_10 rfl (lv_at hl 1 rfl) ?_
    refine lv_iconst (v := 0) hx hb dX5_slot_11 (by decide) ?_
    refine lv_bipush (v := 9) hx hb dX5_slot_12 (by decide) ?_
    obtain ⟨t4, m5, e_m5, h⟩ := b2_elim h
    refine cs_X5_82 hC hG hM (cX8_isWithin_ok e_m5) ⟨by omega, by omega⟩ hl.1 (by first | exact Nat.le_of_ble_eq_true rfl | simp [va_cat, vcI, vcL, vcR]) dX5_slot_14 (fun H locs hM => ?_)
    refine lv_if_eq (tgt := 29) hx hb dX5_slot_17 (by decide) (fun c6 => ?_) (fun c6 => ?_)
    · rw [if_pos c6] at h
      exact wX5_slot_b29 hC hG hR Kr _ _ _ _ h hM (lv_sub hl [] rfl)
    · rw [if_neg c6] at h
      refine lv_iload_n hx hb dX5_slot_20 rfl (lv_at hl 0 rfl) ?_
      refine lv_bipush (v := 10) hx hb dX5_slot_21 (by decide) ?_
      refine lv_imul hx hb dX5_slot_23 ?_
      refine lv_iload_n hx hb dX5_slot_24 rfl (lv_at hl 1 rfl) ?_
      refine lv_iadd hx hb dX5_slot_25 ?_
      refine lv_goto (tgt := 30) hx hb dX5_slot_26 (by decide) ?_
      exact wX5_slot_b30 hC hG hR Kr _ _ _ _ _ h hM (lv_sub hl [] rfl)
theorem cX5_slot_ok {l : Launch} {D : va_G} {cy : Nat → ClassId} {ad : Nat → Nat} {A : Nat → Prop} {z : Nat} {r : Int32} {σ' : Mem} {x0 : Int32} {x1 : Int32} {σ : Mem} (h : fX5_slot x0 x1 σ = some (r, σ')) : CtI l yX5_slot cX5_slot 2 (some .int) 1 [.int x0, .int x1] D cy ad A z σ r σ' :=
  enterI (own := RX5) (by decide) rfl (Nat.le_of_ble_eq_true rfl) rfl (fun p e s m below meth c Q ls hC hG hM Kr hl => wX5_slot hC hG ⟨Nat.le_refl _, Nat.le_refl _⟩ Kr _ _ _ _ _ _ h hM hl)
/-! X5_termOf (I)I -/
def fX5_termOf_b32   (y0 : Int32) (σ : Mem) : Option (Int32 × Mem) :=
  some (y0, σ)
set_option maxRecDepth 20000 in
theorem wX5_termOf_b32 {r : Int32} {σ' : Mem} (hC : CallFix p m c cX5_termOf 3 s args WALL RX5) (hG : GS D cy A s) (hR : 1 ≤ R.frames ∧ 36 ≤ R.locals) (Kr : KrI p l e R s m args below meth c cX5_termOf Q D cy ad A z r σ')   (y0 : Int32) (σ : Mem) (H : Heap) (locs : List Loc) (ls : Array Slot) (h : fX5_termOf_b32 y0 σ = some (r, σ')) (hM : MS D cy ad A s.heap z σ H locs) (hl : lv_has ls 3 []) : W p l e R s m args below meth c H locs 0 0 Q (F0 m 32 ls [.int y0]) := by
  have hx := hC.1
  have hb := hC.2.1
  unfold fX5_termOf_b32 at h
  obtain ⟨rfl, rfl⟩ := Prod.mk.inj (Option.some.inj h)
  exact Kr _ _ _ _ dX5_termOf_32 hM
def fX5_termOf_b19   (y0 : Option Nat) (σ : Mem) : Option (Int32 × Mem) :=
  if y0 = none then fX5_termOf_b32 1 σ
    else (fI σ 2 4 y0).bind fun t2 =>
      fX5_termOf_b32 t2 σ
set_option maxRecDepth 20000 in
theorem wX5_termOf_b19 {r : Int32} {σ' : Mem} (hC : CallFix p m c cX5_termOf 3 s args WALL RX5) (hG : GS D cy A s) (hR : 1 ≤ R.frames ∧ 36 ≤ R.locals) (Kr : KrI p l e R s m args below meth c cX5_termOf Q D cy ad A z r σ')   (y0 : Option Nat) (σ : Mem) (H : Heap) (locs : List Loc) (ls : Array Slot) (h : fX5_termOf_b19 y0 σ = some (r, σ')) (hM : MS D cy ad A s.heap z σ H locs) (hl : lv_has ls 3 []) : W p l e R s m args below meth c H locs 0 0 Q (F0 m 19 ls [va_rf (Option.map ad y0)]) := by
  have hx := hC.1
  have hb := hC.2.1
  unfold fX5_termOf_b19 at h
  refine lr_astore_n (lv' := [(2, va_rf (Option.map ad y0))]) hx hb dX5_termOf_19 rfl hl (by decide) (by first | rfl | simp [va_cat]) (fun ls hl => ?_)
  refine lr_aload_n hx hb dX5_termOf_20 rfl (lv_at hl 0 rfl) ?_
  refine lr_ifnonnull (tgt := 28) hx hb dX5_termOf_21 (by decide) (fun c1 => ?_) (fun c1 => ?_)
  · rw [if_neg c1] at h
    refine lr_aload_n hx hb dX5_termOf_28 rfl (lv_at hl 0 rfl) ?_
    obtain ⟨t2, e_t2, h⟩ := bn h
    refine gf_X5_90 hC hG hM e_t2 dX5_termOf_29 ?_
    exact wX5_termOf_b32 hC hG hR Kr _ _ _ _ _ h hM (lv_sub hl [] rfl)
  · rw [if_pos c1] at h
    refine lv_iconst (v := 1) hx hb dX5_termOf_24 (by decide) ?_
    refine lv_goto (tgt := 32) hx hb dX5_termOf_25 (by decide) ?_
    exact wX5_termOf_b32 hC hG hR Kr _ _ _ _ _ h hM (lv_sub hl [] rfl)
def fX5_termOf (o0 : Nat) (x1 : Int32) (σ : Mem) : Option (Int32 × Mem) :=
  (fR σ 5 4 (some o0)).bind fun t1 =>
    if t1 = none then fX5_termOf_b19 none σ
    else (fR σ 5 4 (some o0)).bind fun t3 =>
      (kT σ 3 t3).bind fun k4 =>
      b2 (fX3_at k4 x1 σ) fun t5 m6 =>
      fX5_termOf_b19 t5 m6
set_option maxRecDepth 20000 in
theorem wX5_termOf {r : Int32} {σ' : Mem} (hC : CallFix p m c cX5_termOf 3 s args WALL RX5) (hG : GS D cy A s) (hR : 1 ≤ R.frames ∧ 36 ≤ R.locals) (Kr : KrI p l e R s m args below meth c cX5_termOf Q D cy ad A z r σ') (o0 : Nat) (x1 : Int32) (σ : Mem) (H : Heap) (locs : List Loc) (ls : Array Slot) (h : fX5_termOf o0 x1 σ = some (r, σ')) (hM : MS D cy ad A s.heap z σ H locs) (hl : lv_has ls 3 [(0, va_rf (Option.map ad (some o0))), (1, .int x1)]) : W p l e R s m args below meth c H locs 0 0 Q (F0 m 0 ls []) := by
  have hx := hC.1
  have hb := hC.2.1
  unfold fX5_termOf at h
  refine lr_aload_n hx hb dX5_termOf_0 rfl (lv_at hl 0 rfl) ?_
  obtain ⟨t1, e_t1, h⟩ := bn h
  refine gf_X5_25 hC hG hM e_t1 dX5_termOf_1 ?_
  refine lr_ifnonnull (tgt := 11) hx hb dX5_termOf_4 (by decide) (fun c2 => ?_) (fun c2 => ?_)
  · rw [if_neg c2] at h
    refine lr_aload_n hx hb dX5_termOf_11 rfl (lv_at hl 0 rfl) ?_
    obtain ⟨t3, e_t3, h⟩ := bn h
    refine gf_X5_25 hC hG hM e_t3 dX5_termOf_12 ?_
    refine lv_iload_n hx hb dX5_termOf_15 rfl (lv_at hl 1 rfl) ?_
    obtain ⟨k4, e_k4, h⟩ := bn h
    obtain ⟨t5, m6, e_m6, h⟩ := b2_elim h
    refine cs_X5_86 e_k4 hC hG hM (cX3_at_ok e_m6) ⟨by omega, by omega⟩ hl.1 (by first | exact Nat.le_of_ble_eq_true rfl | simp [va_cat, vcI, vcL, vcR]) dX5_termOf_16 (fun H locs hM => ?_)
    exact wX5_termOf_b19 hC hG hR Kr _ _ _ _ _ h hM (lv_sub hl [] rfl)
  · rw [if_pos c2] at h
    refine lr_null (ad := ad) hx hb dX5_termOf_7 ?_
    refine lv_goto (tgt := 19) hx hb dX5_termOf_8 (by decide) ?_
    exact wX5_termOf_b19 hC hG hR Kr _ _ _ _ _ h hM (lv_sub hl [] rfl)
theorem cX5_termOf_ok {l : Launch} {D : va_G} {cy : Nat → ClassId} {ad : Nat → Nat} {A : Nat → Prop} {z : Nat} {r : Int32} {σ' : Mem} {o0 : Nat} {x1 : Int32} {σ : Mem} (h : fX5_termOf o0 x1 σ = some (r, σ')) : CtI l yX5_termOf cX5_termOf 3 (some .int) 1 [.ref (ad o0), .int x1] D cy ad A z σ r σ' :=
  enterI (own := RX5) (by decide) rfl (Nat.le_of_ble_eq_true rfl) rfl (fun p e s m below meth c Q ls hC hG hM Kr hl => wX5_termOf hC hG ⟨Nat.le_refl _, Nat.le_refl _⟩ Kr _ _ _ _ _ _ h hM hl)
/-! X7_numberAt (LTariffDesk$Tape;I)I -/
def fX7_numberAt (x0 : Option Nat) (x1 : Int32) (σ : Mem) : Option (Int32 × Mem) :=
  (kT σ 6 x0).bind fun k1 =>
    b2 (fX6_byteAt k1 (2 * x1) σ) fun t2 m3 =>
    (kT m3 6 x0).bind fun k4 =>
    b2 (fX6_byteAt k4 ((2 * x1) + 1) m3) fun t5 m6 =>
    some ((t2 <<< (8 &&& 31)) ||| t5, m6)
set_option maxRecDepth 20000 in
theorem wX7_numberAt {r : Int32} {σ' : Mem} (hC : CallFix p m c cX7_numberAt 2 s args WALL RX7) (hG : GS D cy A s) (hR : 1 ≤ R.frames ∧ 36 ≤ R.locals) (Kr : KrI p l e R s m args below meth c cX7_numberAt Q D cy ad A z r σ') (x0 : Option Nat) (x1 : Int32) (σ : Mem) (H : Heap) (locs : List Loc) (ls : Array Slot) (h : fX7_numberAt x0 x1 σ = some (r, σ')) (hM : MS D cy ad A s.heap z σ H locs) (hl : lv_has ls 2 [(0, va_rf (Option.map ad x0)), (1, .int x1)]) : W p l e R s m args below meth c H locs 0 0 Q (F0 m 0 ls []) := by
  have hx := hC.1
  have hb := hC.2.1
  unfold fX7_numberAt at h
  refine lr_aload_n hx hb dX7_numberAt_0 rfl (lv_at hl 0 rfl) ?_
  refine lv_iconst (v := 2) hx hb dX7_numberAt_1 (by decide) ?_
  refine lv_iload_n hx hb dX7_numberAt_2 rfl (lv_at hl 1 rfl) ?_
  refine lv_imul hx hb dX7_numberAt_3 ?_
  obtain ⟨k1, e_k1, h⟩ := bn h
  obtain ⟨t2, m3, e_m3, h⟩ := b2_elim h
  refine cs_X7_36 e_k1 hC hG hM (cX6_byteAt_ok e_m3) ⟨by omega, by omega⟩ hl.1 (by first | exact Nat.le_of_ble_eq_true rfl | simp [va_cat, vcI, vcL, vcR]) dX7_numberAt_4 (fun H locs hM => ?_)
  refine lv_bipush (v := 8) hx hb dX7_numberAt_7 (by decide) ?_
  refine lv_ishl hx hb dX7_numberAt_9 ?_
  refine lr_aload_n hx hb dX7_numberAt_10 rfl (lv_at hl 0 rfl) ?_
  refine lv_iconst (v := 2) hx hb dX7_numberAt_11 (by decide) ?_
  refine lv_iload_n hx hb dX7_numberAt_12 rfl (lv_at hl 1 rfl) ?_
  refine lv_imul hx hb dX7_numberAt_13 ?_
  refine lv_iconst (v := 1) hx hb dX7_numberAt_14 (by decide) ?_
  refine lv_iadd hx hb dX7_numberAt_15 ?_
  obtain ⟨k4, e_k4, h⟩ := bn h
  obtain ⟨t5, m6, e_m6, h⟩ := b2_elim h
  refine cs_X7_36 e_k4 hC hG hM (cX6_byteAt_ok e_m6) ⟨by omega, by omega⟩ hl.1 (by first | exact Nat.le_of_ble_eq_true rfl | simp [va_cat, vcI, vcL, vcR]) dX7_numberAt_16 (fun H locs hM => ?_)
  refine lv_ior hx hb dX7_numberAt_19 ?_
  obtain ⟨rfl, rfl⟩ := Prod.mk.inj (Option.some.inj h)
  exact Kr _ _ _ _ dX7_numberAt_20 hM
theorem cX7_numberAt_ok {l : Launch} {D : va_G} {cy : Nat → ClassId} {ad : Nat → Nat} {A : Nat → Prop} {z : Nat} {r : Int32} {σ' : Mem} {x0 : Option Nat} {x1 : Int32} {σ : Mem} (h : fX7_numberAt x0 x1 σ = some (r, σ')) : CtI l yX7_numberAt cX7_numberAt 2 (some .int) 1 [va_rf (Option.map ad x0), .int x1] D cy ad A z σ r σ' :=
  enterI (own := RX7) (by decide) rfl (by simp [lg_sl, va_cat, vcI, vcL, vcR]) rfl (fun p e s m below meth c Q ls hC hG hM Kr hl => wX7_numberAt hC hG ⟨Nat.le_refl _, Nat.le_refl _⟩ Kr _ _ _ _ _ _ h hM (by simp [lv_args, va_cat, vcI, vcL, vcR] at hl; exact hl))
/-! X7_slot (III)I -/
def fX7_slot_b28    (σ : Mem) : Option (Int32 × Mem) :=
  some ((-1), σ)
set_option maxRecDepth 20000 in
theorem wX7_slot_b28 {r : Int32} {σ' : Mem} (hC : CallFix p m c cX7_slot 3 s args WALL RX7) (hG : GS D cy A s) (hR : 1 ≤ R.frames ∧ 36 ≤ R.locals) (Kr : KrI p l e R s m args below meth c cX7_slot Q D cy ad A z r σ')    (σ : Mem) (H : Heap) (locs : List Loc) (ls : Array Slot) (h : fX7_slot_b28  σ = some (r, σ')) (hM : MS D cy ad A s.heap z σ H locs) (hl : lv_has ls 3 []) : W p l e R s m args below meth c H locs 0 0 Q (F0 m 28 ls []) := by
  have hx := hC.1
  have hb := hC.2.1
  unfold fX7_slot_b28 at h
  refine lv_iconst (v := (-1)) hx hb dX7_slot_28 (by decide) ?_
  obtain ⟨rfl, rfl⟩ := Prod.mk.inj (Option.some.inj h)
  exact Kr _ _ _ _ dX7_slot_29 hM
def fX7_slot (x0 : Int32) (x1 : Int32) (x2 : Int32) (σ : Mem) : Option (Int32 × Mem) :=
  b2 (fX8_isWithin x0 0 3 σ) fun t1 m2 =>
    if t1 = 0 then fX7_slot_b28 m2
    else b2 (fX8_isWithin x1 0 3 m2) fun t4 m5 =>
      if t4 = 0 then fX7_slot_b28 m5
      else b2 (fX8_isWithin x2 0 23 m5) fun t7 m8 =>
        if t7 = 0 then fX7_slot_b28 m8
        else some ((((x0 * 4) + x1) * 24) + x2, m8)
set_option maxRecDepth 20000 in
theorem wX7_slot {r : Int32} {σ' : Mem} (hC : CallFix p m c cX7_slot 3 s args WALL RX7) (hG : GS D cy A s) (hR : 1 ≤ R.frames ∧ 36 ≤ R.locals) (Kr : KrI p l e R s m args below meth c cX7_slot Q D cy ad A z r σ') (x0 : Int32) (x1 : Int32) (x2 : Int32) (σ : Mem) (H : Heap) (locs : List Loc) (ls : Array Slot) (h : fX7_slot x0 x1 x2 σ = some (r, σ')) (hM : MS D cy ad A s.heap z σ H locs) (hl : lv_has ls 3 [(0, .int x0), (1, .int x1), (2, .int x2)]) : W p l e R s m args below meth c H locs 0 0 Q (F0 m 0 ls []) := by
  have hx := hC.1
  have hb := hC.2.1
  unfold fX7_slot at h
  refine lv_iload_n hx hb dX7_slot_0 rfl (lv_at hl 0 rfl) ?_
  refine lv_iconst (v := 0) hx hb dX7_slot_1 (by decide) ?_
  refine lv_iconst (v := 3) hx hb dX7_slot_2 (by decide) ?_
  obtain ⟨t1, m2, e_m2, h⟩ := b2_elim h
  refine cs_X7_18 hC hG hM (cX8_isWithin_ok e_m2) ⟨by omega, by omega⟩ hl.1 (by first | exact Nat.le_of_ble_eq_true rfl | simp [va_cat, vcI, vcL, vcR]) dX7_slot_3 (fun H locs hM => ?_)
  refine lv_if_eq (tgt := 28) hx hb dX7_slot_6 (by decide) (fun c3 => ?_) (fun c3 => ?_)
  · rw [if_pos c3] at h
    exact wX7_slot_b28 hC hG hR Kr _ _ _ _ h hM (lv_sub hl [] rfl)
  · rw [if_neg c3] at h
    refine lv_iload_n hx hb dX7_slot_9 rfl (lv_at hl 1 rfl) ?_
    refine lv_iconst (v := 0) hx hb dX7_slot_10 (by decide) ?_
    refine lv_iconst (v := 3) hx hb dX7_slot_11 (by decide) ?_
    obtain ⟨t4, m5, e_m5, h⟩ := b2_elim h
    refine cs_X7_18 hC hG hM (cX8_isWithin_ok e_m5) ⟨by omega, by omega⟩ hl.1 (by first | exact Nat.le_of_ble_eq_true rfl | simp [va_cat, vcI, vcL, vcR]) dX7_slot_12 (fun H locs hM => ?_)
    refine lv_if_eq (tgt := 28) hx hb dX7_slot_15 (by decide) (fun c6 => ?_) (fun c6 => ?_)
    · rw [if_pos c6] at h
      exact wX7_slot_b28 hC hG hR Kr _ _ _ _ h hM (lv_sub hl [] rfl)
    · rw [if_neg c6] at h
      refine lv_iload_n hx hb dX7_slot_18 rfl (lv_at hl 2 rfl) ?_
      refine lv_iconst (v := 0) hx hb dX7_slot_19 (by decide) ?_
      refine lv_bipush (v := 23) hx hb dX7_slot_20 (by decide) ?_
      obtain ⟨t7, m8, e_m8, h⟩ := b2_elim h
      refine cs_X7_18 hC hG hM (cX8_isWithin_ok e_m8) ⟨by omega, by omega⟩ hl.1 (by first | exact Nat.le_of_ble_eq_true rfl | simp [va_cat, vcI, vcL, vcR]) dX7_slot_22 (fun H locs hM => ?_)
      refine lv_if_ne (tgt := 30) hx hb dX7_slot_25 (by decide) (fun c9 => ?_) (fun c9 => ?_)
      · rw [if_neg c9] at h
        refine lv_iload_n hx hb dX7_slot_30 rfl (lv_at hl 0 rfl) ?_
        refine lv_iconst (v := 4) hx hb dX7_slot_31 (by decide) ?_
        refine lv_imul hx hb dX7_slot_32 ?_
        refine lv_iload_n hx hb dX7_slot_33 rfl (lv_at hl 1 rfl) ?_
        refine lv_iadd hx hb dX7_slot_34 ?_
        refine lv_bipush (v := 24) hx hb dX7_slot_35 (by decide) ?_
        refine lv_imul hx hb dX7_slot_37 ?_
        refine lv_iload_n hx hb dX7_slot_38 rfl (lv_at hl 2 rfl) ?_
        refine lv_iadd hx hb dX7_slot_39 ?_
        obtain ⟨rfl, rfl⟩ := Prod.mk.inj (Option.some.inj h)
        exact Kr _ _ _ _ dX7_slot_40 hM
      · rw [if_pos c9] at h
        exact wX7_slot_b28 hC hG hR Kr _ _ _ _ h hM (lv_sub hl [] rfl)
theorem cX7_slot_ok {l : Launch} {D : va_G} {cy : Nat → ClassId} {ad : Nat → Nat} {A : Nat → Prop} {z : Nat} {r : Int32} {σ' : Mem} {x0 : Int32} {x1 : Int32} {x2 : Int32} {σ : Mem} (h : fX7_slot x0 x1 x2 σ = some (r, σ')) : CtI l yX7_slot cX7_slot 3 (some .int) 1 [.int x0, .int x1, .int x2] D cy ad A z σ r σ' :=
  enterI (own := RX7) (by decide) rfl (Nat.le_of_ble_eq_true rfl) rfl (fun p e s m below meth c Q ls hC hG hM Kr hl => wX7_slot hC hG ⟨Nat.le_refl _, Nat.le_refl _⟩ Kr _ _ _ _ _ _ _ h hM hl)
/-! X8_feed (IIIII)I -/
def fX8_feed (o0 : Nat) (x1 : Int32) (x2 : Int32) (x3 : Int32) (x4 : Int32) (x5 : Int32) (σ : Mem) : Option (Int32 × Mem) :=
  (fR σ 8 0 (some o0)).bind fun t1 =>
    (fI σ 6 1 t1).bind fun t2 =>
    if (t2 + 20) ≤ 840 then (fR σ 8 0 (some o0)).bind fun t4 =>
      (kT σ 6 t4).bind fun k5 =>
      (fX6_append k5 x1 σ).bind fun m6 =>
      (fR m6 8 0 (some o0)).bind fun t7 =>
      (kT m6 6 t7).bind fun k8 =>
      (fX6_append k8 x2 m6).bind fun m9 =>
      (fR m9 8 0 (some o0)).bind fun t10 =>
      (kT m9 6 t10).bind fun k11 =>
      (fX6_append k11 x3 m9).bind fun m12 =>
      (fR m12 8 0 (some o0)).bind fun t13 =>
      (kT m12 6 t13).bind fun k14 =>
      (fX6_append k14 x4 m12).bind fun m15 =>
      (fR m15 8 0 (some o0)).bind fun t16 =>
      (kT m15 6 t16).bind fun k17 =>
      (fX6_append k17 x5 m15).bind fun m18 =>
      (fR m18 8 0 (some o0)).bind fun t19 =>
      (fI m18 6 1 t19).bind fun t20 =>
      some (t20, m18)
    else some ((-1), σ)
set_option maxRecDepth 20000 in
theorem wX8_feed {r : Int32} {σ' : Mem} (hC : CallFix p m c cX8_feed 6 s args WALL RX8) (hG : GS D cy A s) (hR : 1 ≤ R.frames ∧ 36 ≤ R.locals) (Kr : KrI p l e R s m args below meth c cX8_feed Q D cy ad A z r σ') (o0 : Nat) (x1 : Int32) (x2 : Int32) (x3 : Int32) (x4 : Int32) (x5 : Int32) (σ : Mem) (H : Heap) (locs : List Loc) (ls : Array Slot) (h : fX8_feed o0 x1 x2 x3 x4 x5 σ = some (r, σ')) (hM : MS D cy ad A s.heap z σ H locs) (hl : lv_has ls 6 [(0, va_rf (Option.map ad (some o0))), (1, .int x1), (2, .int x2), (3, .int x3), (4, .int x4), (5, .int x5)]) : W p l e R s m args below meth c H locs 0 0 Q (F0 m 0 ls []) := by
  have hx := hC.1
  have hb := hC.2.1
  unfold fX8_feed at h
  refine lr_aload_n hx hb dX8_feed_0 rfl (lv_at hl 0 rfl) ?_
  obtain ⟨t1, e_t1, h⟩ := bn h
  refine gf_X8_10 hC hG hM e_t1 dX8_feed_1 ?_
  obtain ⟨t2, e_t2, h⟩ := bn h
  refine gf_X8_66 hC hG hM e_t2 dX8_feed_4 ?_
  refine lv_bipush (v := 20) hx hb dX8_feed_7 (by decide) ?_
  refine lv_iadd hx hb dX8_feed_9 ?_
  refine lv_sipush (v := 840) hx hb dX8_feed_10 (by decide) ?_
  refine lv_icmp_le (tgt := 18) hx hb dX8_feed_13 (by decide) (fun c3 => ?_) (fun c3 => ?_)
  · rw [if_pos c3] at h
    refine lr_aload_n hx hb dX8_feed_18 rfl (lv_at hl 0 rfl) ?_
    obtain ⟨t4, e_t4, h⟩ := bn h
    refine gf_X8_10 hC hG hM e_t4 dX8_feed_19 ?_
    refine lv_iload_n hx hb dX8_feed_22 rfl (lv_at hl 1 rfl) ?_
    obtain ⟨k5, e_k5, h⟩ := bn h
    obtain ⟨m6, e_m6, h⟩ := bn h
    refine cs_X8_70 e_k5 hC hG hM (cX6_append_ok e_m6) ⟨by omega, by omega⟩ hl.1 (by first | exact Nat.le_of_ble_eq_true rfl | simp [va_cat, vcI, vcL, vcR]) dX8_feed_23 (fun H locs hM => ?_)
    refine lr_aload_n hx hb dX8_feed_26 rfl (lv_at hl 0 rfl) ?_
    obtain ⟨t7, e_t7, h⟩ := bn h
    refine gf_X8_10 hC hG hM e_t7 dX8_feed_27 ?_
    refine lv_iload_n hx hb dX8_feed_30 rfl (lv_at hl 2 rfl) ?_
    obtain ⟨k8, e_k8, h⟩ := bn h
    obtain ⟨m9, e_m9, h⟩ := bn h
    refine cs_X8_70 e_k8 hC hG hM (cX6_append_ok e_m9) ⟨by omega, by omega⟩ hl.1 (by first | exact Nat.le_of_ble_eq_true rfl | simp [va_cat, vcI, vcL, vcR]) dX8_feed_31 (fun H locs hM => ?_)
    refine lr_aload_n hx hb dX8_feed_34 rfl (lv_at hl 0 rfl) ?_
    obtain ⟨t10, e_t10, h⟩ := bn h
    refine gf_X8_10 hC hG hM e_t10 dX8_feed_35 ?_
    refine lv_iload_n hx hb dX8_feed_38 rfl (lv_at hl 3 rfl) ?_
    obtain ⟨k11, e_k11, h⟩ := bn h
    obtain ⟨m12, e_m12, h⟩ := bn h
    refine cs_X8_70 e_k11 hC hG hM (cX6_append_ok e_m12) ⟨by omega, by omega⟩ hl.1 (by first | exact Nat.le_of_ble_eq_true rfl | simp [va_cat, vcI, vcL, vcR]) dX8_feed_39 (fun H locs hM => ?_)
    refine lr_aload_n hx hb dX8_feed_42 rfl (lv_at hl 0 rfl) ?_
    obtain ⟨t13, e_t13, h⟩ := bn h
    refine gf_X8_10 hC hG hM e_t13 dX8_feed_43 ?_
    refine lv_iload hx hb dX8_feed_46 (lv_at hl 4 rfl) ?_
    obtain ⟨k14, e_k14, h⟩ := bn h
    obtain ⟨m15, e_m15, h⟩ := bn h
    refine cs_X8_70 e_k14 hC hG hM (cX6_append_ok e_m15) ⟨by omega, by omega⟩ hl.1 (by first | exact Nat.le_of_ble_eq_true rfl | simp [va_cat, vcI, vcL, vcR]) dX8_feed_48 (fun H locs hM => ?_)
    refine lr_aload_n hx hb dX8_feed_51 rfl (lv_at hl 0 rfl) ?_
    obtain ⟨t16, e_t16, h⟩ := bn h
    refine gf_X8_10 hC hG hM e_t16 dX8_feed_52 ?_
    refine lv_iload hx hb dX8_feed_55 (lv_at hl 5 rfl) ?_
    obtain ⟨k17, e_k17, h⟩ := bn h
    obtain ⟨m18, e_m18, h⟩ := bn h
    refine cs_X8_70 e_k17 hC hG hM (cX6_append_ok e_m18) ⟨by omega, by omega⟩ hl.1 (by first | exact Nat.le_of_ble_eq_true rfl | simp [va_cat, vcI, vcL, vcR]) dX8_feed_57 (fun H locs hM => ?_)
    refine lr_aload_n hx hb dX8_feed_60 rfl (lv_at hl 0 rfl) ?_
    obtain ⟨t19, e_t19, h⟩ := bn h
    refine gf_X8_10 hC hG hM e_t19 dX8_feed_61 ?_
    obtain ⟨t20, e_t20, h⟩ := bn h
    refine gf_X8_66 hC hG hM e_t20 dX8_feed_64 ?_
    obtain ⟨rfl, rfl⟩ := Prod.mk.inj (Option.some.inj h)
    exact Kr _ _ _ _ dX8_feed_67 hM
  · rw [if_neg c3] at h
    refine lv_iconst (v := (-1)) hx hb dX8_feed_16 (by decide) ?_
    obtain ⟨rfl, rfl⟩ := Prod.mk.inj (Option.some.inj h)
    exact Kr _ _ _ _ dX8_feed_17 hM
theorem cX8_feed_ok {l : Launch} {D : va_G} {cy : Nat → ClassId} {ad : Nat → Nat} {A : Nat → Prop} {z : Nat} {r : Int32} {σ' : Mem} {o0 : Nat} {x1 : Int32} {x2 : Int32} {x3 : Int32} {x4 : Int32} {x5 : Int32} {σ : Mem} (h : fX8_feed o0 x1 x2 x3 x4 x5 σ = some (r, σ')) : CtI l yX8_feed cX8_feed 6 (some .int) 1 [.ref (ad o0), .int x1, .int x2, .int x3, .int x4, .int x5] D cy ad A z σ r σ' :=
  enterI (own := RX8) (by decide) rfl (Nat.le_of_ble_eq_true rfl) rfl (fun p e s m below meth c Q ls hC hG hM Kr hl => wX8_feed hC hG ⟨Nat.le_refl _, Nat.le_refl _⟩ Kr _ _ _ _ _ _ _ _ _ _ h hM hl)
/-! X8_further (JJZ)J -/
def fX8_further_b18   (y0 : Int64) (σ : Mem) : Option (Int64 × Mem) :=
  some (y0, σ)
set_option maxRecDepth 20000 in
theorem wX8_further_b18 {r : Int64} {σ' : Mem} (hC : CallFix p m c cX8_further 5 s args WALL RX8) (hG : GS D cy A s) (hR : 1 ≤ R.frames ∧ 36 ≤ R.locals) (Kr : KrL p l e R s m args below meth c cX8_further Q D cy ad A z r σ')   (y0 : Int64) (σ : Mem) (H : Heap) (locs : List Loc) (ls : Array Slot) (h : fX8_further_b18 y0 σ = some (r, σ')) (hM : MS D cy ad A s.heap z σ H locs) (hl : lv_has ls 5 []) : W p l e R s m args below meth c H locs 0 0 Q (F0 m 18 ls [.long y0]) := by
  have hx := hC.1
  have hb := hC.2.1
  unfold fX8_further_b18 at h
  obtain ⟨rfl, rfl⟩ := Prod.mk.inj (Option.some.inj h)
  exact Kr _ _ _ _ dX8_further_18 hM
def fX8_further (x0 : Int64) (x2 : Int64) (x4 : Int32) (σ : Mem) : Option (Int64 × Mem) :=
  if x4 = 0 then fX8_further_b18 (if x2 < x0 then x2 else x0) σ
    else fX8_further_b18 (if x2 < x0 then x0 else x2) σ
set_option maxRecDepth 20000 in
theorem wX8_further {r : Int64} {σ' : Mem} (hC : CallFix p m c cX8_further 5 s args WALL RX8) (hG : GS D cy A s) (hR : 1 ≤ R.frames ∧ 36 ≤ R.locals) (Kr : KrL p l e R s m args below meth c cX8_further Q D cy ad A z r σ') (x0 : Int64) (x2 : Int64) (x4 : Int32) (σ : Mem) (H : Heap) (locs : List Loc) (ls : Array Slot) (h : fX8_further x0 x2 x4 σ = some (r, σ')) (hM : MS D cy ad A s.heap z σ H locs) (hl : lv_has ls 5 [(0, .long x0), (2, .long x2), (4, .int x4)]) : W p l e R s m args below meth c H locs 0 0 Q (F0 m 0 ls []) := by
  have hx := hC.1
  have hb := hC.2.1
  unfold fX8_further at h
  refine lv_iload hx hb dX8_further_0 (lv_at hl 2 rfl) ?_
  refine lv_if_eq (tgt := 13) hx hb dX8_further_2 (by decide) (fun c1 => ?_) (fun c1 => ?_)
  · rw [if_pos c1] at h
    refine lv_lload_n hx hb dX8_further_13 rfl (lv_at hl 0 rfl) ?_
    refine lv_lload_n hx hb dX8_further_14 rfl (lv_at hl 1 rfl) ?_
    refine mm_X8_215 hC (by omega) (by simp [va_cat, vcI, vcL, vcR] <;> omega) dX8_further_15 hl.1 ?_
    exact wX8_further_b18 hC hG hR Kr _ _ _ _ _ h hM (lv_sub hl [] rfl)
  · rw [if_neg c1] at h
    refine lv_lload_n hx hb dX8_further_5 rfl (lv_at hl 0 rfl) ?_
    refine lv_lload_n hx hb dX8_further_6 rfl (lv_at hl 1 rfl) ?_
    refine mm_X8_209 hC (by omega) (by simp [va_cat, vcI, vcL, vcR] <;> omega) dX8_further_7 hl.1 ?_
    refine lv_goto (tgt := 18) hx hb dX8_further_10 (by decide) ?_
    exact wX8_further_b18 hC hG hR Kr _ _ _ _ _ h hM (lv_sub hl [] rfl)
theorem cX8_further_ok {l : Launch} {D : va_G} {cy : Nat → ClassId} {ad : Nat → Nat} {A : Nat → Prop} {z : Nat} {r : Int64} {σ' : Mem} {x0 : Int64} {x2 : Int64} {x4 : Int32} {σ : Mem} (h : fX8_further x0 x2 x4 σ = some (r, σ')) : CtL l yX8_further cX8_further 5 (some .long) 1 [.long x0, .long x2, .int x4] D cy ad A z σ r σ' :=
  enterL (own := RX8) (by decide) rfl (Nat.le_of_ble_eq_true rfl) rfl (fun p e s m below meth c Q ls hC hG hM Kr hl => wX8_further hC hG ⟨Nat.le_refl _, Nat.le_refl _⟩ Kr _ _ _ _ _ _ _ h hM hl)
/-! X8_group (I)I -/
def fX8_group_b22   (y0 : Int32) (σ : Mem) : Option (Int32 × Mem) :=
  some (y0, σ)
set_option maxRecDepth 20000 in
theorem wX8_group_b22 {r : Int32} {σ' : Mem} (hC : CallFix p m c cX8_group 2 s args WALL RX8) (hG : GS D cy A s) (hR : 1 ≤ R.frames ∧ 36 ≤ R.locals) (Kr : KrI p l e R s m args below meth c cX8_group Q D cy ad A z r σ')   (y0 : Int32) (σ : Mem) (H : Heap) (locs : List Loc) (ls : Array Slot) (h : fX8_group_b22 y0 σ = some (r, σ')) (hM : MS D cy ad A s.heap z σ H locs) (hl : lv_has ls 2 []) : W p l e R s m args below meth c H locs 0 0 Q (F0 m 22 ls [.int y0]) := by
  have hx := hC.1
  have hb := hC.2.1
  unfold fX8_group_b22 at h
  obtain ⟨rfl, rfl⟩ := Prod.mk.inj (Option.some.inj h)
  exact Kr _ _ _ _ dX8_group_22 hM
def fX8_group (o0 : Nat) (x1 : Int32) (σ : Mem) : Option (Int32 × Mem) :=
  b2 (fX8_isWithin x1 0 3 σ) fun t1 m2 =>
    if t1 = 0 then fX8_group_b22 (-1) m2
    else (fR m2 8 4 (some o0)).bind fun t4 =>
      (fR m2 1 3 t4).bind fun t5 =>
      (aI m2 11 t5 x1).bind fun t6 =>
      fX8_group_b22 t6 m2
set_option maxRecDepth 20000 in
theorem wX8_group {r : Int32} {σ' : Mem} (hC : CallFix p m c cX8_group 2 s args WALL RX8) (hG : GS D cy A s) (hR : 1 ≤ R.frames ∧ 36 ≤ R.locals) (Kr : KrI p l e R s m args below meth c cX8_group Q D cy ad A z r σ') (o0 : Nat) (x1 : Int32) (σ : Mem) (H : Heap) (locs : List Loc) (ls : Array Slot) (h : fX8_group o0 x1 σ = some (r, σ')) (hM : MS D cy ad A s.heap z σ H locs) (hl : lv_has ls 2 [(0, va_rf (Option.map ad (some o0))), (1, .int x1)]) : W p l e R s m args below meth c H locs 0 0 Q (F0 m 0 ls []) := by
  have hx := hC.1
  have hb := hC.2.1
  unfold fX8_group at h
  refine lv_iload_n hx hb dX8_group_0 rfl (lv_at hl 1 rfl) ?_
  refine lv_iconst (v := 0) hx hb dX8_group_1 (by decide) ?_
  refine lv_iconst (v := 3) hx hb dX8_group_2 (by decide) ?_
  obtain ⟨t1, m2, e_m2, h⟩ := b2_elim h
  refine cs_X8_148 hC hG hM (cX8_isWithin_ok e_m2) ⟨by omega, by omega⟩ hl.1 (by first | exact Nat.le_of_ble_eq_true rfl | simp [va_cat, vcI, vcL, vcR]) dX8_group_3 (fun H locs hM => ?_)
  refine lv_if_eq (tgt := 21) hx hb dX8_group_6 (by decide) (fun c3 => ?_) (fun c3 => ?_)
  · rw [if_pos c3] at h
    refine lv_iconst (v := (-1)) hx hb dX8_group_21 (by decide) ?_
    exact wX8_group_b22 hC hG hR Kr _ _ _ _ _ h hM (lv_sub hl [] rfl)
  · rw [if_neg c3] at h
    refine lr_aload_n hx hb dX8_group_9 rfl (lv_at hl 0 rfl) ?_
    obtain ⟨t4, e_t4, h⟩ := bn h
    refine gf_X8_42 hC hG hM e_t4 dX8_group_10 ?_
    obtain ⟨t5, e_t5, h⟩ := bn h
    refine gf_X8_168 hC hG hM e_t5 dX8_group_13 ?_
    refine lv_iload_n hx hb dX8_group_16 rfl (lv_at hl 1 rfl) ?_
    obtain ⟨t6, e_t6, h⟩ := bn h
    refine g_iald hx hb hG hM e_t6 dX8_group_17 ?_
    refine lv_goto (tgt := 22) hx hb dX8_group_18 (by decide) ?_
    exact wX8_group_b22 hC hG hR Kr _ _ _ _ _ h hM (lv_sub hl [] rfl)
theorem cX8_group_ok {l : Launch} {D : va_G} {cy : Nat → ClassId} {ad : Nat → Nat} {A : Nat → Prop} {z : Nat} {r : Int32} {σ' : Mem} {o0 : Nat} {x1 : Int32} {σ : Mem} (h : fX8_group o0 x1 σ = some (r, σ')) : CtI l yX8_group cX8_group 2 (some .int) 1 [.ref (ad o0), .int x1] D cy ad A z σ r σ' :=
  enterI (own := RX8) (by decide) rfl (Nat.le_of_ble_eq_true rfl) rfl (fun p e s m below meth c Q ls hC hG hM Kr hl => wX8_group hC hG ⟨Nat.le_refl _, Nat.le_refl _⟩ Kr _ _ _ _ _ _ h hM hl)
/-! X8_had (I)I -/
def fX8_had_b20   (y0 : Int32) (σ : Mem) : Option (Int32 × Mem) :=
  some (y0, σ)
set_option maxRecDepth 20000 in
theorem wX8_had_b20 {r : Int32} {σ' : Mem} (hC : CallFix p m c cX8_had 2 s args WALL RX8) (hG : GS D cy A s) (hR : 1 ≤ R.frames ∧ 36 ≤ R.locals) (Kr : KrI p l e R s m args below meth c cX8_had Q D cy ad A z r σ')   (y0 : Int32) (σ : Mem) (H : Heap) (locs : List Loc) (ls : Array Slot) (h : fX8_had_b20 y0 σ = some (r, σ')) (hM : MS D cy ad A s.heap z σ H locs) (hl : lv_has ls 2 []) : W p l e R s m args below meth c H locs 0 0 Q (F0 m 20 ls [.int y0]) := by
  have hx := hC.1
  have hb := hC.2.1
  unfold fX8_had_b20 at h
  obtain ⟨rfl, rfl⟩ := Prod.mk.inj (Option.some.inj h)
  exact Kr _ _ _ _ dX8_had_20 hM
def fX8_had (o0 : Nat) (x1 : Int32) (σ : Mem) : Option (Int32 × Mem) :=
  b2 (fX8_isWithin x1 0 23 σ) fun t1 m2 =>
    if t1 = 0 then fX8_had_b20 (-1) m2
    else (fR m2 8 7 (some o0)).bind fun t4 =>
      (aI m2 11 t4 x1).bind fun t5 =>
      fX8_had_b20 t5 m2
set_option maxRecDepth 20000 in
theorem wX8_had {r : Int32} {σ' : Mem} (hC : CallFix p m c cX8_had 2 s args WALL RX8) (hG : GS D cy A s) (hR : 1 ≤ R.frames ∧ 36 ≤ R.locals) (Kr : KrI p l e R s m args below meth c cX8_had Q D cy ad A z r σ') (o0 : Nat) (x1 : Int32) (σ : Mem) (H : Heap) (locs : List Loc) (ls : Array Slot) (h : fX8_had o0 x1 σ = some (r, σ')) (hM : MS D cy ad A s.heap z σ H locs) (hl : lv_has ls 2 [(0, va_rf (Option.map ad (some o0))), (1, .int x1)]) : W p l e R s m args below meth c H locs 0 0 Q (F0 m 0 ls []) := by
  have hx := hC.1
  have hb := hC.2.1
  unfold fX8_had at h
  refine lv_iload_n hx hb dX8_had_0 rfl (lv_at hl 1 rfl) ?_
  refine lv_iconst (v := 0) hx hb dX8_had_1 (by decide) ?_
  refine lv_bipush (v := 23) hx hb dX8_had_2 (by decide) ?_
  obtain ⟨t1, m2, e_m2, h⟩ := b2_elim h
  refine cs_X8_148 hC hG hM (cX8_isWithin_ok e_m2) ⟨by omega, by omega⟩ hl.1 (by first | exact Nat.le_of_ble_eq_true rfl | simp [va_cat, vcI, vcL, vcR]) dX8_had_4 (fun H locs hM => ?_)
  refine lv_if_eq (tgt := 19) hx hb dX8_had_7 (by decide) (fun c3 => ?_) (fun c3 => ?_)
  · rw [if_pos c3] at h
    refine lv_iconst (v := (-1)) hx hb dX8_had_19 (by decide) ?_
    exact wX8_had_b20 hC hG hR Kr _ _ _ _ _ h hM (lv_sub hl [] rfl)
  · rw [if_neg c3] at h
    refine lr_aload_n hx hb dX8_had_10 rfl (lv_at hl 0 rfl) ?_
    obtain ⟨t4, e_t4, h⟩ := bn h
    refine gf_X8_53 hC hG hM e_t4 dX8_had_11 ?_
    refine lv_iload_n hx hb dX8_had_14 rfl (lv_at hl 1 rfl) ?_
    obtain ⟨t5, e_t5, h⟩ := bn h
    refine g_iald hx hb hG hM e_t5 dX8_had_15 ?_
    refine lv_goto (tgt := 20) hx hb dX8_had_16 (by decide) ?_
    exact wX8_had_b20 hC hG hR Kr _ _ _ _ _ h hM (lv_sub hl [] rfl)
theorem cX8_had_ok {l : Launch} {D : va_G} {cy : Nat → ClassId} {ad : Nat → Nat} {A : Nat → Prop} {z : Nat} {r : Int32} {σ' : Mem} {o0 : Nat} {x1 : Int32} {σ : Mem} (h : fX8_had o0 x1 σ = some (r, σ')) : CtI l yX8_had cX8_had 2 (some .int) 1 [.ref (ad o0), .int x1] D cy ad A z σ r σ' :=
  enterI (own := RX8) (by decide) rfl (Nat.le_of_ble_eq_true rfl) rfl (fun p e s m below meth c Q ls hC hG hM Kr hl => wX8_had hC hG ⟨Nat.le_refl _, Nat.le_refl _⟩ Kr _ _ _ _ _ _ h hM hl)
/-! X8_name (I)I -/
def fX8_name (o0 : Nat) (x1 : Int32) (σ : Mem) : Option (Int32 × Mem) :=
  (fR σ 8 8 (some o0)).bind fun t1 =>
    (kT σ 3 t1).bind fun k2 =>
    b2 (fX3_at k2 x1 σ) fun t3 m4 =>
    if t3 = none then some ((-1), m4)
    else (fJ m4 2 1 t3).bind fun t6 =>
      (pJ m4 8 10 (some o0) t6).bind fun m7 =>
      (fI m7 2 2 t3).bind fun t8 =>
      (pI m7 8 11 (some o0) t8).bind fun m9 =>
      (fI m9 8 11 (some o0)).bind fun t10 =>
      some (t10, m9)
set_option maxRecDepth 20000 in
theorem wX8_name {r : Int32} {σ' : Mem} (hC : CallFix p m c cX8_name 3 s args WALL RX8) (hG : GS D cy A s) (hR : 1 ≤ R.frames ∧ 36 ≤ R.locals) (Kr : KrI p l e R s m args below meth c cX8_name Q D cy ad A z r σ') (o0 : Nat) (x1 : Int32) (σ : Mem) (H : Heap) (locs : List Loc) (ls : Array Slot) (h : fX8_name o0 x1 σ = some (r, σ')) (hM : MS D cy ad A s.heap z σ H locs) (hl : lv_has ls 3 [(0, va_rf (Option.map ad (some o0))), (1, .int x1)]) : W p l e R s m args below meth c H locs 0 0 Q (F0 m 0 ls []) := by
  have hx := hC.1
  have hb := hC.2.1
  unfold fX8_name at h
  refine lr_aload_n hx hb dX8_name_0 rfl (lv_at hl 0 rfl) ?_
  obtain ⟨t1, e_t1, h⟩ := bn h
  refine gf_X8_59 hC hG hM e_t1 dX8_name_1 ?_
  refine lv_iload_n hx hb dX8_name_4 rfl (lv_at hl 1 rfl) ?_
  obtain ⟨k2, e_k2, h⟩ := bn h
  obtain ⟨t3, m4, e_m4, h⟩ := b2_elim h
  refine cs_X8_94 e_k2 hC hG hM (cX3_at_ok e_m4) ⟨by omega, by omega⟩ hl.1 (by first | exact Nat.le_of_ble_eq_true rfl | simp [va_cat, vcI, vcL, vcR]) dX8_name_5 (fun H locs hM => ?_)
  refine lr_astore_n (lv' := [(2, va_rf (Option.map ad t3)), (0, va_rf (Option.map ad (some o0))), (1, .int x1)]) hx hb dX8_name_8 rfl hl (by decide) (by first | rfl | simp [va_cat]) (fun ls hl => ?_)
  refine lr_aload_n hx hb dX8_name_9 rfl (lv_at hl 0 rfl) ?_
  refine lr_ifnonnull (tgt := 15) hx hb dX8_name_10 (by decide) (fun c5 => ?_) (fun c5 => ?_)
  · rw [if_neg c5] at h
    refine lr_aload_n hx hb dX8_name_15 rfl (lv_at hl 1 rfl) ?_
    refine lr_aload_n hx hb dX8_name_16 rfl (lv_at hl 0 rfl) ?_
    obtain ⟨t6, e_t6, h⟩ := bn h
    refine gf_X8_118 hC hG hM e_t6 dX8_name_17 ?_
    obtain ⟨m7, e_m7, h⟩ := bn h
    refine pf_X8_122 hC hG hM e_m7 dX8_name_20 (fun H locs hM => ?_)
    refine lr_aload_n hx hb dX8_name_23 rfl (lv_at hl 1 rfl) ?_
    refine lr_aload_n hx hb dX8_name_24 rfl (lv_at hl 0 rfl) ?_
    obtain ⟨t8, e_t8, h⟩ := bn h
    refine gf_X8_125 hC hG hM e_t8 dX8_name_25 ?_
    obtain ⟨m9, e_m9, h⟩ := bn h
    refine pf_X8_128 hC hG hM e_m9 dX8_name_28 (fun H locs hM => ?_)
    refine lr_aload_n hx hb dX8_name_31 rfl (lv_at hl 1 rfl) ?_
    obtain ⟨t10, e_t10, h⟩ := bn h
    refine gf_X8_128 hC hG hM e_t10 dX8_name_32 ?_
    obtain ⟨rfl, rfl⟩ := Prod.mk.inj (Option.some.inj h)
    exact Kr _ _ _ _ dX8_name_35 hM
  · rw [if_pos c5] at h
    refine lv_iconst (v := (-1)) hx hb dX8_name_13 (by decide) ?_
    obtain ⟨rfl, rfl⟩ := Prod.mk.inj (Option.some.inj h)
    exact Kr _ _ _ _ dX8_name_14 hM
theorem cX8_name_ok {l : Launch} {D : va_G} {cy : Nat → ClassId} {ad : Nat → Nat} {A : Nat → Prop} {z : Nat} {r : Int32} {σ' : Mem} {o0 : Nat} {x1 : Int32} {σ : Mem} (h : fX8_name o0 x1 σ = some (r, σ')) : CtI l yX8_name cX8_name 3 (some .int) 1 [.ref (ad o0), .int x1] D cy ad A z σ r σ' :=
  enterI (own := RX8) (by decide) rfl (Nat.le_of_ble_eq_true rfl) rfl (fun p e s m below meth c Q ls hC hG hM Kr hl => wX8_name hC hG ⟨Nat.le_refl _, Nat.le_refl _⟩ Kr _ _ _ _ _ _ h hM hl)
/-! X8_span (III)Z -/
def fX8_span_b25    (σ : Mem) : Option (Int32 × Mem) :=
  some (0, σ)
set_option maxRecDepth 20000 in
theorem wX8_span_b25 {r : Int32} {σ' : Mem} (hC : CallFix p m c cX8_span 4 s args WALL RX8) (hG : GS D cy A s) (hR : 1 ≤ R.frames ∧ 36 ≤ R.locals) (Kr : KrZ p l e R s m args below meth c cX8_span Q D cy ad A z r σ')    (σ : Mem) (H : Heap) (locs : List Loc) (ls : Array Slot) (h : fX8_span_b25  σ = some (r, σ')) (hM : MS D cy ad A s.heap z σ H locs) (hl : lv_has ls 4 []) : W p l e R s m args below meth c H locs 0 0 Q (F0 m 25 ls []) := by
  have hx := hC.1
  have hb := hC.2.1
  unfold fX8_span_b25 at h
  refine lv_iconst (v := 0) hx hb dX8_span_25 (by decide) ?_
  cases h
  exact Kr _ _ _ _ dX8_span_26 rfl hM
def fX8_span (o0 : Nat) (x1 : Int32) (x2 : Int32) (x3 : Int32) (σ : Mem) : Option (Int32 × Mem) :=
  b2 (fX8_isWithin x1 0 3 σ) fun t1 m2 =>
    if t1 = 0 then fX8_span_b25 m2
    else if x2 < 0 then fX8_span_b25 m2
      else if x3 < x2 then fX8_span_b25 m2
        else if x3 ≤ 20000 then (fR m2 8 5 (some o0)).bind fun t7 =>
            (wI m2 11 t7 x1 x2).bind fun m8 =>
            (fR m8 8 6 (some o0)).bind fun t9 =>
            (wI m8 11 t9 x1 x3).bind fun m10 =>
            some (1, m10)
          else fX8_span_b25 m2
set_option maxRecDepth 20000 in
theorem wX8_span {r : Int32} {σ' : Mem} (hC : CallFix p m c cX8_span 4 s args WALL RX8) (hG : GS D cy A s) (hR : 1 ≤ R.frames ∧ 36 ≤ R.locals) (Kr : KrZ p l e R s m args below meth c cX8_span Q D cy ad A z r σ') (o0 : Nat) (x1 : Int32) (x2 : Int32) (x3 : Int32) (σ : Mem) (H : Heap) (locs : List Loc) (ls : Array Slot) (h : fX8_span o0 x1 x2 x3 σ = some (r, σ')) (hM : MS D cy ad A s.heap z σ H locs) (hl : lv_has ls 4 [(0, va_rf (Option.map ad (some o0))), (1, .int x1), (2, .int x2), (3, .int x3)]) : W p l e R s m args below meth c H locs 0 0 Q (F0 m 0 ls []) := by
  have hx := hC.1
  have hb := hC.2.1
  unfold fX8_span at h
  refine lv_iload_n hx hb dX8_span_0 rfl (lv_at hl 1 rfl) ?_
  refine lv_iconst (v := 0) hx hb dX8_span_1 (by decide) ?_
  refine lv_iconst (v := 3) hx hb dX8_span_2 (by decide) ?_
  obtain ⟨t1, m2, e_m2, h⟩ := b2_elim h
  refine cs_X8_148 hC hG hM (cX8_isWithin_ok e_m2) ⟨by omega, by omega⟩ hl.1 (by first | exact Nat.le_of_ble_eq_true rfl | simp [va_cat, vcI, vcL, vcR]) dX8_span_3 (fun H locs hM => ?_)
  refine lv_if_eq (tgt := 25) hx hb dX8_span_6 (by decide) (fun c3 => ?_) (fun c3 => ?_)
  · rw [if_pos c3] at h
    exact wX8_span_b25 hC hG hR Kr _ _ _ _ h hM (lv_sub hl [] rfl)
  · rw [if_neg c3] at h
    refine lv_iload_n hx hb dX8_span_9 rfl (lv_at hl 2 rfl) ?_
    refine lv_if_lt (tgt := 25) hx hb dX8_span_10 (by decide) (fun c4 => ?_) (fun c4 => ?_)
    · rw [if_pos c4] at h
      exact wX8_span_b25 hC hG hR Kr _ _ _ _ h hM (lv_sub hl [] rfl)
    · rw [if_neg c4] at h
      refine lv_iload_n hx hb dX8_span_13 rfl (lv_at hl 2 rfl) ?_
      refine lv_iload_n hx hb dX8_span_14 rfl (lv_at hl 3 rfl) ?_
      refine lv_icmp_gt (tgt := 25) hx hb dX8_span_15 (by decide) (fun c5 => ?_) (fun c5 => ?_)
      · rw [if_pos c5] at h
        exact wX8_span_b25 hC hG hR Kr _ _ _ _ h hM (lv_sub hl [] rfl)
      · rw [if_neg c5] at h
        refine lv_iload_n hx hb dX8_span_18 rfl (lv_at hl 3 rfl) ?_
        refine lv_sipush (v := 20000) hx hb dX8_span_19 (by decide) ?_
        refine lv_icmp_le (tgt := 27) hx hb dX8_span_22 (by decide) (fun c6 => ?_) (fun c6 => ?_)
        · rw [if_pos c6] at h
          refine lr_aload_n hx hb dX8_span_27 rfl (lv_at hl 0 rfl) ?_
          obtain ⟨t7, e_t7, h⟩ := bn h
          refine gf_X8_46 hC hG hM e_t7 dX8_span_28 ?_
          refine lv_iload_n hx hb dX8_span_31 rfl (lv_at hl 1 rfl) ?_
          refine lv_iload_n hx hb dX8_span_32 rfl (lv_at hl 2 rfl) ?_
          obtain ⟨m8, e_m8, h⟩ := bn h
          refine g_iast hx hb hG hM e_m8 dX8_span_33 (fun H locs hM => ?_)
          refine lr_aload_n hx hb dX8_span_34 rfl (lv_at hl 0 rfl) ?_
          obtain ⟨t9, e_t9, h⟩ := bn h
          refine gf_X8_50 hC hG hM e_t9 dX8_span_35 ?_
          refine lv_iload_n hx hb dX8_span_38 rfl (lv_at hl 1 rfl) ?_
          refine lv_iload_n hx hb dX8_span_39 rfl (lv_at hl 3 rfl) ?_
          obtain ⟨m10, e_m10, h⟩ := bn h
          refine g_iast hx hb hG hM e_m10 dX8_span_40 (fun H locs hM => ?_)
          refine lv_iconst (v := 1) hx hb dX8_span_41 (by decide) ?_
          cases h
          exact Kr _ _ _ _ dX8_span_42 rfl hM
        · rw [if_neg c6] at h
          exact wX8_span_b25 hC hG hR Kr _ _ _ _ h hM (lv_sub hl [] rfl)
theorem cX8_span_ok {l : Launch} {D : va_G} {cy : Nat → ClassId} {ad : Nat → Nat} {A : Nat → Prop} {z : Nat} {r : Int32} {σ' : Mem} {o0 : Nat} {x1 : Int32} {x2 : Int32} {x3 : Int32} {σ : Mem} (h : fX8_span o0 x1 x2 x3 σ = some (r, σ')) : CtI l yX8_span cX8_span 4 (some .boolean) 1 [.ref (ad o0), .int x1, .int x2, .int x3] D cy ad A z σ r σ' :=
  enterZ (own := RX8) (by decide) rfl (Nat.le_of_ble_eq_true rfl) rfl (fun p e s m below meth c Q ls hC hG hM Kr hl => wX8_span hC hG ⟨Nat.le_refl _, Nat.le_refl _⟩ Kr _ _ _ _ _ _ _ _ h hM hl)
/-! X9_above (IIZ)J -/
def fX9_above_b219  (o0 : Nat) (x4 : Int64)  (σ : Mem) : Option (Int64 × Mem) :=
  (pI σ 9 0 (some o0) 0).bind fun m1 =>
    some (x4, m1)
set_option maxRecDepth 20000 in
theorem wX9_above_b219 {r : Int64} {σ' : Mem} (hC : CallFix p m c cX9_above 14 s args WALL RX9) (hG : GS D cy A s) (hR : 1 ≤ R.frames ∧ 36 ≤ R.locals) (Kr : KrL p l e R s m args below meth c cX9_above Q D cy ad A z r σ')  (o0 : Nat) (x4 : Int64)  (σ : Mem) (H : Heap) (locs : List Loc) (ls : Array Slot) (h : fX9_above_b219 o0 x4 σ = some (r, σ')) (hM : MS D cy ad A s.heap z σ H locs) (hl : lv_has ls 14 [(0, va_rf (Option.map ad (some o0))), (4, .long x4)]) : W p l e R s m args below meth c H locs 0 0 Q (F0 m 219 ls []) := by
  have hx := hC.1
  have hb := hC.2.1
  unfold fX9_above_b219 at h
  refine lr_aload_n hx hb dX9_above_219 rfl (lv_at hl 0 rfl) ?_
  refine lv_iconst (v := 0) hx hb dX9_above_220 (by decide) ?_
  obtain ⟨m1, e_m1, h⟩ := bn h
  refine pf_X9_87 hC hG hM e_m1 dX9_above_221 (fun H locs hM => ?_)
  refine lv_lload hx hb dX9_above_224 (lv_at hl 1 rfl) ?_
  obtain ⟨rfl, rfl⟩ := Prod.mk.inj (Option.some.inj h)
  exact Kr _ _ _ _ dX9_above_226 hM
def fX9_above_b213 (rc41 : Nat → Int32 → Int32 → Int32 → Int64 → Int32 → Mem → Option (Int64 × Mem)) (o0 : Nat) (x1 : Int32) (x2 : Int32) (x3 : Int32) (x4 : Int64) (x6 : Int32)  (σ : Mem) : Option (Int64 × Mem) :=
  bd (x6 + 1) fun t1 =>
    rc41 o0 x1 x2 x3 x4 t1 σ
set_option maxRecDepth 20000 in
theorem wX9_above_b213 {r : Int64} {σ' : Mem} (hC : CallFix p m c cX9_above 14 s args WALL RX9) (hG : GS D cy A s) (hR : 1 ≤ R.frames ∧ 36 ≤ R.locals) (Kr : KrL p l e R s m args below meth c cX9_above Q D cy ad A z r σ') {rc41 : Nat → Int32 → Int32 → Int32 → Int64 → Int32 → Mem → Option (Int64 × Mem)} (Kc41 : ∀ (o0 : Nat) (x1 : Int32) (x2 : Int32) (x3 : Int32) (x4 : Int64) (x6 : Int32) (τ : Mem) (H : Heap) (locs : List Loc) (ls : Array Slot), rc41 o0 x1 x2 x3 x4 x6 τ = some (r, σ') → MS D cy ad A s.heap z τ H locs → lv_has ls 14 [(0, va_rf (Option.map ad (some o0))), (1, .int x1), (2, .int x2), (3, .int x3), (4, .long x4), (6, .int x6)] → W p l e R s m args below meth c H locs 0 0 Q (F0 m 41 ls [])) (o0 : Nat) (x1 : Int32) (x2 : Int32) (x3 : Int32) (x4 : Int64) (x6 : Int32)  (σ : Mem) (H : Heap) (locs : List Loc) (ls : Array Slot) (h : fX9_above_b213 rc41 o0 x1 x2 x3 x4 x6 σ = some (r, σ')) (hM : MS D cy ad A s.heap z σ H locs) (hl : lv_has ls 14 [(0, va_rf (Option.map ad (some o0))), (1, .int x1), (2, .int x2), (3, .int x3), (4, .long x4), (6, .int x6)]) : W p l e R s m args below meth c H locs 0 0 Q (F0 m 213 ls []) := by
  have hx := hC.1
  have hb := hC.2.1
  unfold fX9_above_b213 at h
  obtain ⟨t1, e_t1, h⟩ := bd_elim h
  refine lv_iinc (v := t1) (lv' := [(6, .int t1), (0, va_rf (Option.map ad (some o0))), (1, .int x1), (2, .int x2), (3, .int x3), (4, .long x4)]) hx hb dX9_above_213 hl (k := 5) rfl (by rw [e_t1]; rfl) (by decide) (by first | rfl | simp [va_cat]) (fun ls hl => ?_)
  refine lv_goto (tgt := 41) hx hb dX9_above_216 (by decide) ?_
  exact Kc41 _ _ _ _ _ _ _ _ _ _ h hM (lv_sub hl [1, 2, 3, 4, 5, 0] rfl)
def fX9_above_b206 (rc41 : Nat → Int32 → Int32 → Int32 → Int64 → Int32 → Mem → Option (Int64 × Mem)) (o0 : Nat) (x1 : Int32) (x2 : Int32) (x3 : Int32) (x4 : Int64) (x6 : Int32) (x9 : Int64)  (σ : Mem) : Option (Int64 × Mem) :=
  bd (x4 + x9) fun t1 =>
    fX9_above_b213 rc41 o0 x1 x2 x3 t1 x6 σ
set_option maxRecDepth 20000 in
theorem wX9_above_b206 {r : Int64} {σ' : Mem} (hC : CallFix p m c cX9_above 14 s args WALL RX9) (hG : GS D cy A s) (hR : 1 ≤ R.frames ∧ 36 ≤ R.locals) (Kr : KrL p l e R s m args below meth c cX9_above Q D cy ad A z r σ') {rc41 : Nat → Int32 → Int32 → Int32 → Int64 → Int32 → Mem → Option (Int64 × Mem)} (Kc41 : ∀ (o0 : Nat) (x1 : Int32) (x2 : Int32) (x3 : Int32) (x4 : Int64) (x6 : Int32) (τ : Mem) (H : Heap) (locs : List Loc) (ls : Array Slot), rc41 o0 x1 x2 x3 x4 x6 τ = some (r, σ') → MS D cy ad A s.heap z τ H locs → lv_has ls 14 [(0, va_rf (Option.map ad (some o0))), (1, .int x1), (2, .int x2), (3, .int x3), (4, .long x4), (6, .int x6)] → W p l e R s m args below meth c H locs 0 0 Q (F0 m 41 ls [])) (o0 : Nat) (x1 : Int32) (x2 : Int32) (x3 : Int32) (x4 : Int64) (x6 : Int32) (x9 : Int64)  (σ : Mem) (H : Heap) (locs : List Loc) (ls : Array Slot) (h : fX9_above_b206 rc41 o0 x1 x2 x3 x4 x6 x9 σ = some (r, σ')) (hM : MS D cy ad A s.heap z σ H locs) (hl : lv_has ls 14 [(0, va_rf (Option.map ad (some o0))), (1, .int x1), (2, .int x2), (3, .int x3), (4, .long x4), (6, .int x6), (9, .long x9)]) : W p l e R s m args below meth c H locs 0 0 Q (F0 m 206 ls []) := by
  have hx := hC.1
  have hb := hC.2.1
  unfold fX9_above_b206 at h
  refine lv_lload hx hb dX9_above_206 (lv_at hl 4 rfl) ?_
  refine lv_lload hx hb dX9_above_208 (lv_at hl 6 rfl) ?_
  refine lv_ladd hx hb dX9_above_210 ?_
  obtain ⟨t1, e_t1, h⟩ := bd_elim h
  refine lr_nml e_t1 ?_
  refine lv_lstore (lv' := [(4, .long t1), (0, va_rf (Option.map ad (some o0))), (1, .int x1), (2, .int x2), (3, .int x3), (6, .int x6), (9, .long x9)]) hx hb dX9_above_211 hl (by decide) (by first | rfl | simp [va_cat]) (fun ls hl => ?_)
  exact wX9_above_b213 hC hG hR Kr Kc41 _ _ _ _ _ _ _ _ _ _ h hM (lv_sub hl [1, 2, 3, 4, 0, 5] rfl)
def fX9_above_b200 (rc41 : Nat → Int32 → Int32 → Int32 → Int64 → Int32 → Mem → Option (Int64 × Mem)) (rc142 : Nat → Int32 → Int32 → Int32 → Int64 → Int32 → Int32 → Int32 → Int64 → Int32 → Mem → Option (Int64 × Mem)) (o0 : Nat) (x1 : Int32) (x2 : Int32) (x3 : Int32) (x4 : Int64) (x6 : Int32) (x7 : Int32) (x8 : Int32) (x9 : Int64) (x11 : Int32)  (σ : Mem) : Option (Int64 × Mem) :=
  bd (x11 + 1) fun t1 =>
    rc142 o0 x1 x2 x3 x4 x6 x7 x8 x9 t1 σ
set_option maxRecDepth 20000 in
theorem wX9_above_b200 {r : Int64} {σ' : Mem} (hC : CallFix p m c cX9_above 14 s args WALL RX9) (hG : GS D cy A s) (hR : 1 ≤ R.frames ∧ 36 ≤ R.locals) (Kr : KrL p l e R s m args below meth c cX9_above Q D cy ad A z r σ') {rc41 : Nat → Int32 → Int32 → Int32 → Int64 → Int32 → Mem → Option (Int64 × Mem)} (Kc41 : ∀ (o0 : Nat) (x1 : Int32) (x2 : Int32) (x3 : Int32) (x4 : Int64) (x6 : Int32) (τ : Mem) (H : Heap) (locs : List Loc) (ls : Array Slot), rc41 o0 x1 x2 x3 x4 x6 τ = some (r, σ') → MS D cy ad A s.heap z τ H locs → lv_has ls 14 [(0, va_rf (Option.map ad (some o0))), (1, .int x1), (2, .int x2), (3, .int x3), (4, .long x4), (6, .int x6)] → W p l e R s m args below meth c H locs 0 0 Q (F0 m 41 ls [])) {rc142 : Nat → Int32 → Int32 → Int32 → Int64 → Int32 → Int32 → Int32 → Int64 → Int32 → Mem → Option (Int64 × Mem)} (Kc142 : ∀ (o0 : Nat) (x1 : Int32) (x2 : Int32) (x3 : Int32) (x4 : Int64) (x6 : Int32) (x7 : Int32) (x8 : Int32) (x9 : Int64) (x11 : Int32) (τ : Mem) (H : Heap) (locs : List Loc) (ls : Array Slot), rc142 o0 x1 x2 x3 x4 x6 x7 x8 x9 x11 τ = some (r, σ') → MS D cy ad A s.heap z τ H locs → lv_has ls 14 [(0, va_rf (Option.map ad (some o0))), (1, .int x1), (2, .int x2), (3, .int x3), (4, .long x4), (6, .int x6), (7, .int x7), (8, .int x8), (9, .long x9), (11, .int x11)] → W p l e R s m args below meth c H locs 0 0 Q (F0 m 142 ls [])) (o0 : Nat) (x1 : Int32) (x2 : Int32) (x3 : Int32) (x4 : Int64) (x6 : Int32) (x7 : Int32) (x8 : Int32) (x9 : Int64) (x11 : Int32)  (σ : Mem) (H : Heap) (locs : List Loc) (ls : Array Slot) (h : fX9_above_b200 rc41 rc142 o0 x1 x2 x3 x4 x6 x7 x8 x9 x11 σ = some (r, σ')) (hM : MS D cy ad A s.heap z σ H locs) (hl : lv_has ls 14 [(0, va_rf (Option.map ad (some o0))), (1, .int x1), (2, .int x2), (3, .int x3), (4, .long x4), (6, .int x6), (7, .int x7), (8, .int x8), (9, .long x9), (11, .int x11)]) : W p l e R s m args below meth c H locs 0 0 Q (F0 m 200 ls []) := by
  have hx := hC.1
  have hb := hC.2.1
  unfold fX9_above_b200 at h
  obtain ⟨t1, e_t1, h⟩ := bd_elim h
  refine lv_iinc (v := t1) (lv' := [(11, .int t1), (0, va_rf (Option.map ad (some o0))), (1, .int x1), (2, .int x2), (3, .int x3), (4, .long x4), (6, .int x6), (7, .int x7), (8, .int x8), (9, .long x9)]) hx hb dX9_above_200 hl (k := 9) rfl (by rw [e_t1]; rfl) (by decide) (by first | rfl | simp [va_cat]) (fun ls hl => ?_)
  refine lv_goto (tgt := 142) hx hb dX9_above_203 (by decide) ?_
  exact Kc142 _ _ _ _ _ _ _ _ _ _ _ _ _ _ h hM (lv_sub hl [1, 2, 3, 4, 5, 6, 7, 8, 9, 0] rfl)
def fX9_above_b196 (rc41 : Nat → Int32 → Int32 → Int32 → Int64 → Int32 → Mem → Option (Int64 × Mem)) (rc142 : Nat → Int32 → Int32 → Int32 → Int64 → Int32 → Int32 → Int32 → Int64 → Int32 → Mem → Option (Int64 × Mem)) (o0 : Nat) (x1 : Int32) (x2 : Int32) (x3 : Int32) (x4 : Int64) (x6 : Int32) (x7 : Int32) (x8 : Int32) (x11 : Int32) (x12 : Int64)  (σ : Mem) : Option (Int64 × Mem) :=
  fX9_above_b200 rc41 rc142 o0 x1 x2 x3 x4 x6 x7 x8 x12 x11 σ
set_option maxRecDepth 20000 in
theorem wX9_above_b196 {r : Int64} {σ' : Mem} (hC : CallFix p m c cX9_above 14 s args WALL RX9) (hG : GS D cy A s) (hR : 1 ≤ R.frames ∧ 36 ≤ R.locals) (Kr : KrL p l e R s m args below meth c cX9_above Q D cy ad A z r σ') {rc41 : Nat → Int32 → Int32 → Int32 → Int64 → Int32 → Mem → Option (Int64 × Mem)} (Kc41 : ∀ (o0 : Nat) (x1 : Int32) (x2 : Int32) (x3 : Int32) (x4 : Int64) (x6 : Int32) (τ : Mem) (H : Heap) (locs : List Loc) (ls : Array Slot), rc41 o0 x1 x2 x3 x4 x6 τ = some (r, σ') → MS D cy ad A s.heap z τ H locs → lv_has ls 14 [(0, va_rf (Option.map ad (some o0))), (1, .int x1), (2, .int x2), (3, .int x3), (4, .long x4), (6, .int x6)] → W p l e R s m args below meth c H locs 0 0 Q (F0 m 41 ls [])) {rc142 : Nat → Int32 → Int32 → Int32 → Int64 → Int32 → Int32 → Int32 → Int64 → Int32 → Mem → Option (Int64 × Mem)} (Kc142 : ∀ (o0 : Nat) (x1 : Int32) (x2 : Int32) (x3 : Int32) (x4 : Int64) (x6 : Int32) (x7 : Int32) (x8 : Int32) (x9 : Int64) (x11 : Int32) (τ : Mem) (H : Heap) (locs : List Loc) (ls : Array Slot), rc142 o0 x1 x2 x3 x4 x6 x7 x8 x9 x11 τ = some (r, σ') → MS D cy ad A s.heap z τ H locs → lv_has ls 14 [(0, va_rf (Option.map ad (some o0))), (1, .int x1), (2, .int x2), (3, .int x3), (4, .long x4), (6, .int x6), (7, .int x7), (8, .int x8), (9, .long x9), (11, .int x11)] → W p l e R s m args below meth c H locs 0 0 Q (F0 m 142 ls [])) (o0 : Nat) (x1 : Int32) (x2 : Int32) (x3 : Int32) (x4 : Int64) (x6 : Int32) (x7 : Int32) (x8 : Int32) (x11 : Int32) (x12 : Int64)  (σ : Mem) (H : Heap) (locs : List Loc) (ls : Array Slot) (h : fX9_above_b196 rc41 rc142 o0 x1 x2 x3 x4 x6 x7 x8 x11 x12 σ = some (r, σ')) (hM : MS D cy ad A s.heap z σ H locs) (hl : lv_has ls 14 [(0, va_rf (Option.map ad (some o0))), (1, .int x1), (2, .int x2), (3, .int x3), (4, .long x4), (6, .int x6), (7, .int x7), (8, .int x8), (11, .int x11), (12, .long x12)]) : W p l e R s m args below meth c H locs 0 0 Q (F0 m 196 ls []) := by
  have hx := hC.1
  have hb := hC.2.1
  unfold fX9_above_b196 at h
  refine lv_lload hx hb dX9_above_196 (lv_at hl 9 rfl) ?_
  refine lv_lstore (lv' := [(9, .long x12), (0, va_rf (Option.map ad (some o0))), (1, .int x1), (2, .int x2), (3, .int x3), (4, .long x4), (6, .int x6), (7, .int x7), (8, .int x8), (11, .int x11), (12, .long x12)]) hx hb dX9_above_198 hl (by decide) (by first | rfl | simp [va_cat]) (fun ls hl => ?_)
  exact wX9_above_b200 hC hG hR Kr Kc41 Kc142 _ _ _ _ _ _ _ _ _ _ _ _ _ _ h hM (lv_sub hl [1, 2, 3, 4, 5, 6, 7, 8, 0, 9] rfl)
def fX9_above_b142 (rc41 : Nat → Int32 → Int32 → Int32 → Int64 → Int32 → Mem → Option (Int64 × Mem)) : Nat → Nat → Int32 → Int32 → Int32 → Int64 → Int32 → Int32 → Int32 → Int64 → Int32 → Mem → Option (Int64 × Mem)
  | 0, _, _, _, _, _, _, _, _, _, _, _ => none
  | n + 1, o0, x1, x2, x3, x4, x6, x7, x8, x9, x11, σ =>
    (fR σ 9 41 (some o0)).bind fun t1 =>
      (aI σ 11 t1 x6).bind fun t2 =>
      if t2 < x11 then fX9_above_b206 rc41 o0 x1 x2 x3 x4 x6 x9 σ
      else (kT σ 9 (some o0)).bind fun k4 =>
        b2 (fX9_partCost k4 x7 x11 σ) fun t5 m6 =>
        (kT m6 9 (some o0)).bind fun k7 =>
        b2 (fX9_partCost k7 x8 x11 m6) fun t8 m9 =>
        bd (t5 - t8) fun t10 =>
        if x3 = 0 then if x9 ≤ t10 then fX9_above_b200 rc41 (fX9_above_b142 rc41 n) o0 x1 x2 x3 x4 x6 x7 x8 x9 x11 m9
          else fX9_above_b196 rc41 (fX9_above_b142 rc41 n) o0 x1 x2 x3 x4 x6 x7 x8 x11 t10 m9
        else if t10 ≤ x9 then fX9_above_b200 rc41 (fX9_above_b142 rc41 n) o0 x1 x2 x3 x4 x6 x7 x8 x9 x11 m9
          else fX9_above_b196 rc41 (fX9_above_b142 rc41 n) o0 x1 x2 x3 x4 x6 x7 x8 x11 t10 m9
set_option maxRecDepth 20000 in
theorem wX9_above_b142 {r : Int64} {σ' : Mem} (hC : CallFix p m c cX9_above 14 s args WALL RX9) (hG : GS D cy A s) (hR : 1 ≤ R.frames ∧ 36 ≤ R.locals) (Kr : KrL p l e R s m args below meth c cX9_above Q D cy ad A z r σ') {rc41 : Nat → Int32 → Int32 → Int32 → Int64 → Int32 → Mem → Option (Int64 × Mem)} (Kc41 : ∀ (o0 : Nat) (x1 : Int32) (x2 : Int32) (x3 : Int32) (x4 : Int64) (x6 : Int32) (τ : Mem) (H : Heap) (locs : List Loc) (ls : Array Slot), rc41 o0 x1 x2 x3 x4 x6 τ = some (r, σ') → MS D cy ad A s.heap z τ H locs → lv_has ls 14 [(0, va_rf (Option.map ad (some o0))), (1, .int x1), (2, .int x2), (3, .int x3), (4, .long x4), (6, .int x6)] → W p l e R s m args below meth c H locs 0 0 Q (F0 m 41 ls [])) : ∀ (n : Nat) (o0 : Nat) (x1 : Int32) (x2 : Int32) (x3 : Int32) (x4 : Int64) (x6 : Int32) (x7 : Int32) (x8 : Int32) (x9 : Int64) (x11 : Int32)  (σ : Mem) (H : Heap) (locs : List Loc) (ls : Array Slot), fX9_above_b142 rc41 n o0 x1 x2 x3 x4 x6 x7 x8 x9 x11 σ = some (r, σ') → MS D cy ad A s.heap z σ H locs → lv_has ls 14 [(0, va_rf (Option.map ad (some o0))), (1, .int x1), (2, .int x2), (3, .int x3), (4, .long x4), (6, .int x6), (7, .int x7), (8, .int x8), (9, .long x9), (11, .int x11)] → W p l e R s m args below meth c H locs 0 0 Q (F0 m 142 ls []) := by
  have hx := hC.1
  have hb := hC.2.1
  intro n
  induction n with
  | zero =>
    intro o0 x1 x2 x3 x4 x6 x7 x8 x9 x11 σ H locs ls h
    cases h
  | succ n ih =>
    intro o0 x1 x2 x3 x4 x6 x7 x8 x9 x11 σ H locs ls h hM hl
    rw [fX9_above_b142] at h
    refine lv_iload hx hb dX9_above_142 (lv_at hl 9 rfl) ?_
    refine lr_aload_n hx hb dX9_above_144 rfl (lv_at hl 0 rfl) ?_
    obtain ⟨t1, e_t1, h⟩ := bn h
    refine gf_X9_84 hC hG hM e_t1 dX9_above_145 ?_
    refine lv_iload hx hb dX9_above_148 (lv_at hl 5 rfl) ?_
    obtain ⟨t2, e_t2, h⟩ := bn h
    refine g_iald hx hb hG hM e_t2 dX9_above_150 ?_
    refine lv_icmp_gt (tgt := 206) hx hb dX9_above_151 (by decide) (fun c3 => ?_) (fun c3 => ?_)
    · rw [if_pos c3] at h
      exact wX9_above_b206 hC hG hR Kr Kc41 _ _ _ _ _ _ _ _ _ _ _ h hM (lv_sub hl [0, 1, 2, 3, 4, 5, 8] rfl)
    · rw [if_neg c3] at h
      refine lr_aload_n hx hb dX9_above_154 rfl (lv_at hl 0 rfl) ?_
      refine lv_iload hx hb dX9_above_155 (lv_at hl 6 rfl) ?_
      refine lv_iload hx hb dX9_above_157 (lv_at hl 9 rfl) ?_
      obtain ⟨k4, e_k4, h⟩ := bn h
      obtain ⟨t5, m6, e_m6, h⟩ := b2_elim h
      refine cs_X9_238 e_k4 hC hG hM (cX9_partCost_ok e_m6) ⟨by omega, by omega⟩ hl.1 (by first | exact Nat.le_of_ble_eq_true rfl | simp [va_cat, vcI, vcL, vcR]) dX9_above_159 (fun H locs hM => ?_)
      refine lr_aload_n hx hb dX9_above_162 rfl (lv_at hl 0 rfl) ?_
      refine lv_iload hx hb dX9_above_163 (lv_at hl 7 rfl) ?_
      refine lv_iload hx hb dX9_above_165 (lv_at hl 9 rfl) ?_
      obtain ⟨k7, e_k7, h⟩ := bn h
      obtain ⟨t8, m9, e_m9, h⟩ := b2_elim h
      refine cs_X9_238 e_k7 hC hG hM (cX9_partCost_ok e_m9) ⟨by omega, by omega⟩ hl.1 (by first | exact Nat.le_of_ble_eq_true rfl | simp [va_cat, vcI, vcL, vcR]) dX9_above_167 (fun H locs hM => ?_)
      refine lv_lsub hx hb dX9_above_170 ?_
      obtain ⟨t10, e_t10, h⟩ := bd_elim h
      refine lr_nml e_t10 ?_
      refine lv_lstore (lv' := [(12, .long t10), (0, va_rf (Option.map ad (some o0))), (1, .int x1), (2, .int x2), (3, .int x3), (4, .long x4), (6, .int x6), (7, .int x7), (8, .int x8), (9, .long x9), (11, .int x11)]) hx hb dX9_above_171 hl (by decide) (by first | rfl | simp [va_cat]) (fun ls hl => ?_)
      refine lv_iload_n hx hb dX9_above_173 rfl (lv_at hl 4 rfl) ?_
      refine lv_if_eq (tgt := 188) hx hb dX9_above_174 (by decide) (fun c11 => ?_) (fun c11 => ?_)
      · rw [if_pos c11] at h
        refine lv_lload hx hb dX9_above_188 (lv_at hl 0 rfl) ?_
        refine lv_lload hx hb dX9_above_190 (lv_at hl 9 rfl) ?_
        refine lc_ge (tgt := 200) hx hb dX9_above_192 dX9_above_193 (by decide) (fun c12 => ?_) (fun c12 => ?_)
        · rw [if_pos c12] at h
          exact wX9_above_b200 hC hG hR Kr Kc41 ih _ _ _ _ _ _ _ _ _ _ _ _ _ _ h hM (lv_sub hl [1, 2, 3, 4, 5, 6, 7, 8, 9, 10] rfl)
        · rw [if_neg c12] at h
          exact wX9_above_b196 hC hG hR Kr Kc41 ih _ _ _ _ _ _ _ _ _ _ _ _ _ _ h hM (lv_sub hl [1, 2, 3, 4, 5, 6, 7, 8, 10, 0] rfl)
      · rw [if_neg c11] at h
        refine lv_lload hx hb dX9_above_177 (lv_at hl 0 rfl) ?_
        refine lv_lload hx hb dX9_above_179 (lv_at hl 9 rfl) ?_
        refine lc_le (tgt := 200) hx hb dX9_above_181 dX9_above_182 (by decide) (fun c13 => ?_) (fun c13 => ?_)
        · rw [if_pos c13] at h
          exact wX9_above_b200 hC hG hR Kr Kc41 ih _ _ _ _ _ _ _ _ _ _ _ _ _ _ h hM (lv_sub hl [1, 2, 3, 4, 5, 6, 7, 8, 9, 10] rfl)
        · rw [if_neg c13] at h
          refine lv_goto (tgt := 196) hx hb dX9_above_185 (by decide) ?_
          exact wX9_above_b196 hC hG hR Kr Kc41 ih _ _ _ _ _ _ _ _ _ _ _ _ _ _ h hM (lv_sub hl [1, 2, 3, 4, 5, 6, 7, 8, 10, 0] rfl)
def fX9_above_b96 (rc41 : Nat → Int32 → Int32 → Int32 → Int64 → Int32 → Mem → Option (Int64 × Mem)) (o0 : Nat)  (σ : Mem) : Option (Int64 × Mem) :=
  (kT σ 9 (some o0)).bind fun k1 =>
    b2 (fX9_refuse k1 σ) fun t2 m3 =>
    some ((t2 : Int32).toInt64, m3)
set_option maxRecDepth 20000 in
theorem wX9_above_b96 {r : Int64} {σ' : Mem} (hC : CallFix p m c cX9_above 14 s args WALL RX9) (hG : GS D cy A s) (hR : 1 ≤ R.frames ∧ 36 ≤ R.locals) (Kr : KrL p l e R s m args below meth c cX9_above Q D cy ad A z r σ') {rc41 : Nat → Int32 → Int32 → Int32 → Int64 → Int32 → Mem → Option (Int64 × Mem)} (Kc41 : ∀ (o0 : Nat) (x1 : Int32) (x2 : Int32) (x3 : Int32) (x4 : Int64) (x6 : Int32) (τ : Mem) (H : Heap) (locs : List Loc) (ls : Array Slot), rc41 o0 x1 x2 x3 x4 x6 τ = some (r, σ') → MS D cy ad A s.heap z τ H locs → lv_has ls 14 [(0, va_rf (Option.map ad (some o0))), (1, .int x1), (2, .int x2), (3, .int x3), (4, .long x4), (6, .int x6)] → W p l e R s m args below meth c H locs 0 0 Q (F0 m 41 ls [])) (o0 : Nat)  (σ : Mem) (H : Heap) (locs : List Loc) (ls : Array Slot) (h : fX9_above_b96 rc41 o0 σ = some (r, σ')) (hM : MS D cy ad A s.heap z σ H locs) (hl : lv_has ls 14 [(0, va_rf (Option.map ad (some o0)))]) : W p l e R s m args below meth c H locs 0 0 Q (F0 m 96 ls []) := by
  have hx := hC.1
  have hb := hC.2.1
  unfold fX9_above_b96 at h
  refine lr_aload_n hx hb dX9_above_96 rfl (lv_at hl 0 rfl) ?_
  obtain ⟨k1, e_k1, h⟩ := bn h
  obtain ⟨t2, m3, e_m3, h⟩ := b2_elim h
  refine cs_X9_217 e_k1 hC hG hM (cX9_refuse_ok e_m3) ⟨by omega, by omega⟩ hl.1 (by first | exact Nat.le_of_ble_eq_true rfl | simp [va_cat, vcI, vcL, vcR]) dX9_above_97 (fun H locs hM => ?_)
  refine lv_i2l hx hb dX9_above_100 rfl ?_
  obtain ⟨rfl, rfl⟩ := Prod.mk.inj (Option.some.inj h)
  exact Kr _ _ _ _ dX9_above_101 hM
def fX9_above_b41  : Nat → Nat → Int32 → Int32 → Int32 → Int64 → Int32 → Mem → Option (Int64 × Mem)
  | 0, _, _, _, _, _, _, _ => none
  | n + 1, o0, x1, x2, x3, x4, x6, σ =>
    if 4 ≤ x6 then fX9_above_b219 o0 x4 σ
      else (fR σ 9 41 (some o0)).bind fun t2 =>
        (aI σ 11 t2 x6).bind fun t3 =>
        if t3 = 0 then fX9_above_b213 (fX9_above_b41 n) o0 x1 x2 x3 x4 x6 σ
        else bd ((4 * x1) + x6) fun t5 =>
          bd ((4 * x2) + x6) fun t6 =>
          (fR σ 9 16 (some o0)).bind fun t7 =>
          (aI σ 13 t7 t5).bind fun t8 =>
          if t8 = 0 then fX9_above_b96 (fX9_above_b41 n) o0 σ
          else (fR σ 9 16 (some o0)).bind fun t10 =>
            (aI σ 13 t10 t6).bind fun t11 =>
            if t11 = 0 then fX9_above_b96 (fX9_above_b41 n) o0 σ
            else (fR σ 9 40 (some o0)).bind fun t13 =>
              (aI σ 11 t13 x6).bind fun t14 =>
              (kT σ 9 (some o0)).bind fun k15 =>
              b2 (fX9_partCost k15 t5 t14 σ) fun t16 m17 =>
              (fR m17 9 40 (some o0)).bind fun t18 =>
              (aI m17 11 t18 x6).bind fun t19 =>
              (kT m17 9 (some o0)).bind fun k20 =>
              b2 (fX9_partCost k20 t6 t19 m17) fun t21 m22 =>
              bd (t16 - t21) fun t23 =>
              (fR m22 9 40 (some o0)).bind fun t24 =>
              (aI m22 11 t24 x6).bind fun t25 =>
              bd (t25 + 1) fun t26 =>
              fX9_above_b142 (fX9_above_b41 n) FU o0 x1 x2 x3 x4 x6 t5 t6 t23 t26 m22
set_option maxRecDepth 20000 in
theorem wX9_above_b41 {r : Int64} {σ' : Mem} (hC : CallFix p m c cX9_above 14 s args WALL RX9) (hG : GS D cy A s) (hR : 1 ≤ R.frames ∧ 36 ≤ R.locals) (Kr : KrL p l e R s m args below meth c cX9_above Q D cy ad A z r σ')  : ∀ (n : Nat) (o0 : Nat) (x1 : Int32) (x2 : Int32) (x3 : Int32) (x4 : Int64) (x6 : Int32)  (σ : Mem) (H : Heap) (locs : List Loc) (ls : Array Slot), fX9_above_b41 n o0 x1 x2 x3 x4 x6 σ = some (r, σ') → MS D cy ad A s.heap z σ H locs → lv_has ls 14 [(0, va_rf (Option.map ad (some o0))), (1, .int x1), (2, .int x2), (3, .int x3), (4, .long x4), (6, .int x6)] → W p l e R s m args below meth c H locs 0 0 Q (F0 m 41 ls []) := by
  have hx := hC.1
  have hb := hC.2.1
  intro n
  induction n with
  | zero =>
    intro o0 x1 x2 x3 x4 x6 σ H locs ls h
    cases h
  | succ n ih =>
    intro o0 x1 x2 x3 x4 x6 σ H locs ls h hM hl
    rw [fX9_above_b41] at h
    refine lv_iload hx hb dX9_above_41 (lv_at hl 5 rfl) ?_
    refine lv_iconst (v := 4) hx hb dX9_above_43 (by decide) ?_
    refine lv_icmp_ge (tgt := 219) hx hb dX9_above_44 (by decide) (fun c1 => ?_) (fun c1 => ?_)
    · rw [if_pos c1] at h
      exact wX9_above_b219 hC hG hR Kr _ _ _ _ _ _ h hM (lv_sub hl [0, 4] rfl)
    · rw [if_neg c1] at h
      refine lr_aload_n hx hb dX9_above_47 rfl (lv_at hl 0 rfl) ?_
      obtain ⟨t2, e_t2, h⟩ := bn h
      refine gf_X9_84 hC hG hM e_t2 dX9_above_48 ?_
      refine lv_iload hx hb dX9_above_51 (lv_at hl 5 rfl) ?_
      obtain ⟨t3, e_t3, h⟩ := bn h
      refine g_iald hx hb hG hM e_t3 dX9_above_53 ?_
      refine lv_if_ne (tgt := 60) hx hb dX9_above_54 (by decide) (fun c4 => ?_) (fun c4 => ?_)
      · rw [if_neg c4] at h
        refine lv_iconst (v := 4) hx hb dX9_above_60 (by decide) ?_
        refine lv_iload_n hx hb dX9_above_61 rfl (lv_at hl 1 rfl) ?_
        refine lv_imul hx hb dX9_above_62 ?_
        refine lv_iload hx hb dX9_above_63 (lv_at hl 5 rfl) ?_
        refine lv_iadd hx hb dX9_above_65 ?_
        obtain ⟨t5, e_t5, h⟩ := bd_elim h
        refine lr_nmi e_t5 ?_
        refine lv_istore (lv' := [(7, .int t5), (0, va_rf (Option.map ad (some o0))), (1, .int x1), (2, .int x2), (3, .int x3), (4, .long x4), (6, .int x6)]) hx hb dX9_above_66 hl (by decide) (by first | rfl | simp [va_cat]) (fun ls hl => ?_)
        refine lv_iconst (v := 4) hx hb dX9_above_68 (by decide) ?_
        refine lv_iload_n hx hb dX9_above_69 rfl (lv_at hl 3 rfl) ?_
        refine lv_imul hx hb dX9_above_70 ?_
        refine lv_iload hx hb dX9_above_71 (lv_at hl 6 rfl) ?_
        refine lv_iadd hx hb dX9_above_73 ?_
        obtain ⟨t6, e_t6, h⟩ := bd_elim h
        refine lr_nmi e_t6 ?_
        refine lv_istore (lv' := [(8, .int t6), (7, .int t5), (0, va_rf (Option.map ad (some o0))), (1, .int x1), (2, .int x2), (3, .int x3), (4, .long x4), (6, .int x6)]) hx hb dX9_above_74 hl (by decide) (by first | rfl | simp [va_cat]) (fun ls hl => ?_)
        refine lr_aload_n hx hb dX9_above_76 rfl (lv_at hl 2 rfl) ?_
        obtain ⟨t7, e_t7, h⟩ := bn h
        refine gf_X9_29 hC hG hM e_t7 dX9_above_77 ?_
        refine lv_iload hx hb dX9_above_80 (lv_at hl 1 rfl) ?_
        obtain ⟨t8, e_t8, h⟩ := bn h
        refine g_zald hx hb hG hM e_t8 dX9_above_82 ?_
        refine lv_if_eq (tgt := 96) hx hb dX9_above_83 (by decide) (fun c9 => ?_) (fun c9 => ?_)
        · rw [if_pos c9] at h
          exact wX9_above_b96 hC hG hR Kr ih _ _ _ _ _ h hM (lv_sub hl [2] rfl)
        · rw [if_neg c9] at h
          refine lr_aload_n hx hb dX9_above_86 rfl (lv_at hl 2 rfl) ?_
          obtain ⟨t10, e_t10, h⟩ := bn h
          refine gf_X9_29 hC hG hM e_t10 dX9_above_87 ?_
          refine lv_iload hx hb dX9_above_90 (lv_at hl 0 rfl) ?_
          obtain ⟨t11, e_t11, h⟩ := bn h
          refine g_zald hx hb hG hM e_t11 dX9_above_92 ?_
          refine lv_if_ne (tgt := 102) hx hb dX9_above_93 (by decide) (fun c12 => ?_) (fun c12 => ?_)
          · rw [if_neg c12] at h
            refine lr_aload_n hx hb dX9_above_102 rfl (lv_at hl 2 rfl) ?_
            refine lv_iload hx hb dX9_above_103 (lv_at hl 1 rfl) ?_
            refine lr_aload_n hx hb dX9_above_105 rfl (lv_at hl 2 rfl) ?_
            obtain ⟨t13, e_t13, h⟩ := bn h
            refine gf_X9_81 hC hG hM e_t13 dX9_above_106 ?_
            refine lv_iload hx hb dX9_above_109 (lv_at hl 7 rfl) ?_
            obtain ⟨t14, e_t14, h⟩ := bn h
            refine g_iald hx hb hG hM e_t14 dX9_above_111 ?_
            obtain ⟨k15, e_k15, h⟩ := bn h
            obtain ⟨t16, m17, e_m17, h⟩ := b2_elim h
            refine cs_X9_238 e_k15 hC hG hM (cX9_partCost_ok e_m17) ⟨by omega, by omega⟩ hl.1 (by first | exact Nat.le_of_ble_eq_true rfl | simp [va_cat, vcI, vcL, vcR]) dX9_above_112 (fun H locs hM => ?_)
            refine lr_aload_n hx hb dX9_above_115 rfl (lv_at hl 2 rfl) ?_
            refine lv_iload hx hb dX9_above_116 (lv_at hl 0 rfl) ?_
            refine lr_aload_n hx hb dX9_above_118 rfl (lv_at hl 2 rfl) ?_
            obtain ⟨t18, e_t18, h⟩ := bn h
            refine gf_X9_81 hC hG hM e_t18 dX9_above_119 ?_
            refine lv_iload hx hb dX9_above_122 (lv_at hl 7 rfl) ?_
            obtain ⟨t19, e_t19, h⟩ := bn h
            refine g_iald hx hb hG hM e_t19 dX9_above_124 ?_
            obtain ⟨k20, e_k20, h⟩ := bn h
            obtain ⟨t21, m22, e_m22, h⟩ := b2_elim h
            refine cs_X9_238 e_k20 hC hG hM (cX9_partCost_ok e_m22) ⟨by omega, by omega⟩ hl.1 (by first | exact Nat.le_of_ble_eq_true rfl | simp [va_cat, vcI, vcL, vcR]) dX9_above_125 (fun H locs hM => ?_)
            refine lv_lsub hx hb dX9_above_128 ?_
            obtain ⟨t23, e_t23, h⟩ := bd_elim h
            refine lr_nml e_t23 ?_
            refine lv_lstore (lv' := [(9, .long t23), (8, .int t6), (7, .int t5), (0, va_rf (Option.map ad (some o0))), (1, .int x1), (2, .int x2), (3, .int x3), (4, .long x4), (6, .int x6)]) hx hb dX9_above_129 hl (by decide) (by first | rfl | simp [va_cat]) (fun ls hl => ?_)
            refine lr_aload_n hx hb dX9_above_131 rfl (lv_at hl 3 rfl) ?_
            obtain ⟨t24, e_t24, h⟩ := bn h
            refine gf_X9_81 hC hG hM e_t24 dX9_above_132 ?_
            refine lv_iload hx hb dX9_above_135 (lv_at hl 8 rfl) ?_
            obtain ⟨t25, e_t25, h⟩ := bn h
            refine g_iald hx hb hG hM e_t25 dX9_above_137 ?_
            refine lv_iconst (v := 1) hx hb dX9_above_138 (by decide) ?_
            refine lv_iadd hx hb dX9_above_139 ?_
            obtain ⟨t26, e_t26, h⟩ := bd_elim h
            refine lr_nmi e_t26 ?_
            refine lv_istore (lv' := [(11, .int t26), (9, .long t23), (8, .int t6), (7, .int t5), (0, va_rf (Option.map ad (some o0))), (1, .int x1), (2, .int x2), (3, .int x3), (4, .long x4), (6, .int x6)]) hx hb dX9_above_140 hl (by decide) (by first | rfl | simp [va_cat]) (fun ls hl => ?_)
            exact wX9_above_b142 hC hG hR Kr ih FU _ _ _ _ _ _ _ _ _ _ _ _ _ _ h hM (lv_sub hl [4, 5, 6, 7, 8, 9, 3, 2, 1, 0] rfl)
          · rw [if_pos c12] at h
            exact wX9_above_b96 hC hG hR Kr ih _ _ _ _ _ h hM (lv_sub hl [2] rfl)
      · rw [if_pos c4] at h
        refine lv_goto (tgt := 213) hx hb dX9_above_57 (by decide) ?_
        exact wX9_above_b213 hC hG hR Kr ih _ _ _ _ _ _ _ _ _ _ h hM (lv_sub hl [0, 1, 2, 3, 4, 5] rfl)
def fX9_above_b16  (o0 : Nat)  (σ : Mem) : Option (Int64 × Mem) :=
  (kT σ 9 (some o0)).bind fun k1 =>
    b2 (fX9_refuse k1 σ) fun t2 m3 =>
    some ((t2 : Int32).toInt64, m3)
set_option maxRecDepth 20000 in
theorem wX9_above_b16 {r : Int64} {σ' : Mem} (hC : CallFix p m c cX9_above 14 s args WALL RX9) (hG : GS D cy A s) (hR : 1 ≤ R.frames ∧ 36 ≤ R.locals) (Kr : KrL p l e R s m args below meth c cX9_above Q D cy ad A z r σ')  (o0 : Nat)  (σ : Mem) (H : Heap) (locs : List Loc) (ls : Array Slot) (h : fX9_above_b16 o0 σ = some (r, σ')) (hM : MS D cy ad A s.heap z σ H locs) (hl : lv_has ls 14 [(0, va_rf (Option.map ad (some o0)))]) : W p l e R s m args below meth c H locs 0 0 Q (F0 m 16 ls []) := by
  have hx := hC.1
  have hb := hC.2.1
  unfold fX9_above_b16 at h
  refine lr_aload_n hx hb dX9_above_16 rfl (lv_at hl 0 rfl) ?_
  obtain ⟨k1, e_k1, h⟩ := bn h
  obtain ⟨t2, m3, e_m3, h⟩ := b2_elim h
  refine cs_X9_217 e_k1 hC hG hM (cX9_refuse_ok e_m3) ⟨by omega, by omega⟩ hl.1 (by first | exact Nat.le_of_ble_eq_true rfl | simp [va_cat, vcI, vcL, vcR]) dX9_above_17 (fun H locs hM => ?_)
  refine lv_i2l hx hb dX9_above_20 rfl ?_
  obtain ⟨rfl, rfl⟩ := Prod.mk.inj (Option.some.inj h)
  exact Kr _ _ _ _ dX9_above_21 hM
def fX9_above (o0 : Nat) (x1 : Int32) (x2 : Int32) (x3 : Int32) (σ : Mem) : Option (Int64 × Mem) :=
  (kT σ 9 (some o0)).bind fun k1 =>
    b2 (fX9_isPlan k1 x1 σ) fun t2 m3 =>
    if t2 = 0 then fX9_above_b16 o0 m3
    else (kT m3 9 (some o0)).bind fun k5 =>
      b2 (fX9_isPlan k5 x2 m3) fun t6 m7 =>
      if t6 = 0 then fX9_above_b16 o0 m7
      else (fR m7 9 12 (some o0)).bind fun t9 =>
        (aI m7 11 t9 x1).bind fun t10 =>
        (fR m7 9 12 (some o0)).bind fun t11 =>
        (aI m7 11 t11 x2).bind fun t12 =>
        bd ((t10 - t12 : Int32).toInt64) fun t13 =>
        fX9_above_b41 FU o0 x1 x2 x3 t13 0 m7
set_option maxRecDepth 20000 in
theorem wX9_above {r : Int64} {σ' : Mem} (hC : CallFix p m c cX9_above 14 s args WALL RX9) (hG : GS D cy A s) (hR : 1 ≤ R.frames ∧ 36 ≤ R.locals) (Kr : KrL p l e R s m args below meth c cX9_above Q D cy ad A z r σ') (o0 : Nat) (x1 : Int32) (x2 : Int32) (x3 : Int32) (σ : Mem) (H : Heap) (locs : List Loc) (ls : Array Slot) (h : fX9_above o0 x1 x2 x3 σ = some (r, σ')) (hM : MS D cy ad A s.heap z σ H locs) (hl : lv_has ls 14 [(0, va_rf (Option.map ad (some o0))), (1, .int x1), (2, .int x2), (3, .int x3)]) : W p l e R s m args below meth c H locs 0 0 Q (F0 m 0 ls []) := by
  have hx := hC.1
  have hb := hC.2.1
  unfold fX9_above at h
  refine lr_aload_n hx hb dX9_above_0 rfl (lv_at hl 0 rfl) ?_
  refine lv_iload_n hx hb dX9_above_1 rfl (lv_at hl 1 rfl) ?_
  obtain ⟨k1, e_k1, h⟩ := bn h
  obtain ⟨t2, m3, e_m3, h⟩ := b2_elim h
  refine cs_X9_214 e_k1 hC hG hM (cX9_isPlan_ok e_m3) ⟨by omega, by omega⟩ hl.1 (by first | exact Nat.le_of_ble_eq_true rfl | simp [va_cat, vcI, vcL, vcR]) dX9_above_2 (fun H locs hM => ?_)
  refine lv_if_eq (tgt := 16) hx hb dX9_above_5 (by decide) (fun c4 => ?_) (fun c4 => ?_)
  · rw [if_pos c4] at h
    exact wX9_above_b16 hC hG hR Kr _ _ _ _ _ h hM (lv_sub hl [0] rfl)
  · rw [if_neg c4] at h
    refine lr_aload_n hx hb dX9_above_8 rfl (lv_at hl 0 rfl) ?_
    refine lv_iload_n hx hb dX9_above_9 rfl (lv_at hl 2 rfl) ?_
    obtain ⟨k5, e_k5, h⟩ := bn h
    obtain ⟨t6, m7, e_m7, h⟩ := b2_elim h
    refine cs_X9_214 e_k5 hC hG hM (cX9_isPlan_ok e_m7) ⟨by omega, by omega⟩ hl.1 (by first | exact Nat.le_of_ble_eq_true rfl | simp [va_cat, vcI, vcL, vcR]) dX9_above_10 (fun H locs hM => ?_)
    refine lv_if_ne (tgt := 22) hx hb dX9_above_13 (by decide) (fun c8 => ?_) (fun c8 => ?_)
    · rw [if_neg c8] at h
      refine lr_aload_n hx hb dX9_above_22 rfl (lv_at hl 0 rfl) ?_
      obtain ⟨t9, e_t9, h⟩ := bn h
      refine gf_X9_17 hC hG hM e_t9 dX9_above_23 ?_
      refine lv_iload_n hx hb dX9_above_26 rfl (lv_at hl 1 rfl) ?_
      obtain ⟨t10, e_t10, h⟩ := bn h
      refine g_iald hx hb hG hM e_t10 dX9_above_27 ?_
      refine lr_aload_n hx hb dX9_above_28 rfl (lv_at hl 0 rfl) ?_
      obtain ⟨t11, e_t11, h⟩ := bn h
      refine gf_X9_17 hC hG hM e_t11 dX9_above_29 ?_
      refine lv_iload_n hx hb dX9_above_32 rfl (lv_at hl 2 rfl) ?_
      obtain ⟨t12, e_t12, h⟩ := bn h
      refine g_iald hx hb hG hM e_t12 dX9_above_33 ?_
      refine lv_isub hx hb dX9_above_34 ?_
      refine lv_i2l hx hb dX9_above_35 rfl ?_
      obtain ⟨t13, e_t13, h⟩ := bd_elim h
      refine lr_nml e_t13 ?_
      refine lv_lstore (lv' := [(4, .long t13), (0, va_rf (Option.map ad (some o0))), (1, .int x1), (2, .int x2), (3, .int x3)]) hx hb dX9_above_36 hl (by decide) (by first | rfl | simp [va_cat]) (fun ls hl => ?_)
      refine lv_iconst (v := 0) hx hb dX9_above_38 (by decide) ?_
      refine lv_istore (lv' := [(6, .int 0), (4, .long t13), (0, va_rf (Option.map ad (some o0))), (1, .int x1), (2, .int x2), (3, .int x3)]) hx hb dX9_above_39 hl (by decide) (by first | rfl | simp [va_cat]) (fun ls hl => ?_)
      exact wX9_above_b41 hC hG hR Kr FU _ _ _ _ _ _ _ _ _ _ h hM (lv_sub hl [2, 3, 4, 5, 1, 0] rfl)
    · rw [if_pos c8] at h
      exact wX9_above_b16 hC hG hR Kr _ _ _ _ _ h hM (lv_sub hl [0] rfl)
theorem cX9_above_ok {l : Launch} {D : va_G} {cy : Nat → ClassId} {ad : Nat → Nat} {A : Nat → Prop} {z : Nat} {r : Int64} {σ' : Mem} {o0 : Nat} {x1 : Int32} {x2 : Int32} {x3 : Int32} {σ : Mem} (h : fX9_above o0 x1 x2 x3 σ = some (r, σ')) : CtL l yX9_above cX9_above 14 (some .long) 1 [.ref (ad o0), .int x1, .int x2, .int x3] D cy ad A z σ r σ' :=
  enterL (own := RX9) (by decide) rfl (Nat.le_of_ble_eq_true rfl) rfl (fun p e s m below meth c Q ls hC hG hM Kr hl => wX9_above hC hG ⟨Nat.le_refl _, Nat.le_refl _⟩ Kr _ _ _ _ _ _ _ _ h hM hl)
/-! X9_feed (IIIII)I -/
def fX9_feed (o0 : Nat) (x1 : Int32) (x2 : Int32) (x3 : Int32) (x4 : Int32) (x5 : Int32) (σ : Mem) : Option (Int32 × Mem) :=
  (pI σ 9 0 (some o0) 0).bind fun m1 =>
    (fI m1 9 2 (some o0)).bind fun t2 =>
    if (t2 + 20) ≤ 840 then (kT m1 9 (some o0)).bind fun k4 =>
      (fX9_come k4 x1 m1).bind fun m5 =>
      (kT m5 9 (some o0)).bind fun k6 =>
      (fX9_come k6 x2 m5).bind fun m7 =>
      (kT m7 9 (some o0)).bind fun k8 =>
      (fX9_come k8 x3 m7).bind fun m9 =>
      (kT m9 9 (some o0)).bind fun k10 =>
      (fX9_come k10 x4 m9).bind fun m11 =>
      (kT m11 9 (some o0)).bind fun k12 =>
      (fX9_come k12 x5 m11).bind fun m13 =>
      (fI m13 9 2 (some o0)).bind fun t14 =>
      some (t14, m13)
    else some ((-1), m1)
set_option maxRecDepth 20000 in
theorem wX9_feed {r : Int32} {σ' : Mem} (hC : CallFix p m c cX9_feed 6 s args WALL RX9) (hG : GS D cy A s) (hR : 1 ≤ R.frames ∧ 36 ≤ R.locals) (Kr : KrI p l e R s m args below meth c cX9_feed Q D cy ad A z r σ') (o0 : Nat) (x1 : Int32) (x2 : Int32) (x3 : Int32) (x4 : Int32) (x5 : Int32) (σ : Mem) (H : Heap) (locs : List Loc) (ls : Array Slot) (h : fX9_feed o0 x1 x2 x3 x4 x5 σ = some (r, σ')) (hM : MS D cy ad A s.heap z σ H locs) (hl : lv_has ls 6 [(0, va_rf (Option.map ad (some o0))), (1, .int x1), (2, .int x2), (3, .int x3), (4, .int x4), (5, .int x5)]) : W p l e R s m args below meth c H locs 0 0 Q (F0 m 0 ls []) := by
  have hx := hC.1
  have hb := hC.2.1
  unfold fX9_feed at h
  refine lr_aload_n hx hb dX9_feed_0 rfl (lv_at hl 0 rfl) ?_
  refine lv_iconst (v := 0) hx hb dX9_feed_1 (by decide) ?_
  obtain ⟨m1, e_m1, h⟩ := bn h
  refine pf_X9_87 hC hG hM e_m1 dX9_feed_2 (fun H locs hM => ?_)
  refine lr_aload_n hx hb dX9_feed_5 rfl (lv_at hl 0 rfl) ?_
  obtain ⟨t2, e_t2, h⟩ := bn h
  refine gf_X9_91 hC hG hM e_t2 dX9_feed_6 ?_
  refine lv_bipush (v := 20) hx hb dX9_feed_9 (by decide) ?_
  refine lv_iadd hx hb dX9_feed_11 ?_
  refine lv_sipush (v := 840) hx hb dX9_feed_12 (by decide) ?_
  refine lv_icmp_le (tgt := 20) hx hb dX9_feed_15 (by decide) (fun c3 => ?_) (fun c3 => ?_)
  · rw [if_pos c3] at h
    refine lr_aload_n hx hb dX9_feed_20 rfl (lv_at hl 0 rfl) ?_
    refine lv_iload_n hx hb dX9_feed_21 rfl (lv_at hl 1 rfl) ?_
    obtain ⟨k4, e_k4, h⟩ := bn h
    obtain ⟨m5, e_m5, h⟩ := bn h
    refine cs_X9_94 e_k4 hC hG hM (cX9_come_ok e_m5) ⟨by omega, by omega⟩ hl.1 (by first | exact Nat.le_of_ble_eq_true rfl | simp [va_cat, vcI, vcL, vcR]) dX9_feed_22 (fun H locs hM => ?_)
    refine lr_aload_n hx hb dX9_feed_25 rfl (lv_at hl 0 rfl) ?_
    refine lv_iload_n hx hb dX9_feed_26 rfl (lv_at hl 2 rfl) ?_
    obtain ⟨k6, e_k6, h⟩ := bn h
    obtain ⟨m7, e_m7, h⟩ := bn h
    refine cs_X9_94 e_k6 hC hG hM (cX9_come_ok e_m7) ⟨by omega, by omega⟩ hl.1 (by first | exact Nat.le_of_ble_eq_true rfl | simp [va_cat, vcI, vcL, vcR]) dX9_feed_27 (fun H locs hM => ?_)
    refine lr_aload_n hx hb dX9_feed_30 rfl (lv_at hl 0 rfl) ?_
    refine lv_iload_n hx hb dX9_feed_31 rfl (lv_at hl 3 rfl) ?_
    obtain ⟨k8, e_k8, h⟩ := bn h
    obtain ⟨m9, e_m9, h⟩ := bn h
    refine cs_X9_94 e_k8 hC hG hM (cX9_come_ok e_m9) ⟨by omega, by omega⟩ hl.1 (by first | exact Nat.le_of_ble_eq_true rfl | simp [va_cat, vcI, vcL, vcR]) dX9_feed_32 (fun H locs hM => ?_)
    refine lr_aload_n hx hb dX9_feed_35 rfl (lv_at hl 0 rfl) ?_
    refine lv_iload hx hb dX9_feed_36 (lv_at hl 4 rfl) ?_
    obtain ⟨k10, e_k10, h⟩ := bn h
    obtain ⟨m11, e_m11, h⟩ := bn h
    refine cs_X9_94 e_k10 hC hG hM (cX9_come_ok e_m11) ⟨by omega, by omega⟩ hl.1 (by first | exact Nat.le_of_ble_eq_true rfl | simp [va_cat, vcI, vcL, vcR]) dX9_feed_38 (fun H locs hM => ?_)
    refine lr_aload_n hx hb dX9_feed_41 rfl (lv_at hl 0 rfl) ?_
    refine lv_iload hx hb dX9_feed_42 (lv_at hl 5 rfl) ?_
    obtain ⟨k12, e_k12, h⟩ := bn h
    obtain ⟨m13, e_m13, h⟩ := bn h
    refine cs_X9_94 e_k12 hC hG hM (cX9_come_ok e_m13) ⟨by omega, by omega⟩ hl.1 (by first | exact Nat.le_of_ble_eq_true rfl | simp [va_cat, vcI, vcL, vcR]) dX9_feed_44 (fun H locs hM => ?_)
    refine lr_aload_n hx hb dX9_feed_47 rfl (lv_at hl 0 rfl) ?_
    obtain ⟨t14, e_t14, h⟩ := bn h
    refine gf_X9_91 hC hG hM e_t14 dX9_feed_48 ?_
    obtain ⟨rfl, rfl⟩ := Prod.mk.inj (Option.some.inj h)
    exact Kr _ _ _ _ dX9_feed_51 hM
  · rw [if_neg c3] at h
    refine lv_iconst (v := (-1)) hx hb dX9_feed_18 (by decide) ?_
    obtain ⟨rfl, rfl⟩ := Prod.mk.inj (Option.some.inj h)
    exact Kr _ _ _ _ dX9_feed_19 hM
theorem cX9_feed_ok {l : Launch} {D : va_G} {cy : Nat → ClassId} {ad : Nat → Nat} {A : Nat → Prop} {z : Nat} {r : Int32} {σ' : Mem} {o0 : Nat} {x1 : Int32} {x2 : Int32} {x3 : Int32} {x4 : Int32} {x5 : Int32} {σ : Mem} (h : fX9_feed o0 x1 x2 x3 x4 x5 σ = some (r, σ')) : CtI l yX9_feed cX9_feed 6 (some .int) 1 [.ref (ad o0), .int x1, .int x2, .int x3, .int x4, .int x5] D cy ad A z σ r σ' :=
  enterI (own := RX9) (by decide) rfl (Nat.le_of_ble_eq_true rfl) rfl (fun p e s m below meth c Q ls hC hG hM Kr hl => wX9_feed hC hG ⟨Nat.le_refl _, Nat.le_refl _⟩ Kr _ _ _ _ _ _ _ _ _ _ h hM hl)
end WK
