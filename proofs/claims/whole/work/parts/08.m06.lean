section WK
variable {p : Program} {l : Launch} {e : Env} {R : Room} {s : State} {m : MethodId} {args : Array Value} {below : List Frame} {meth : Method} {c : Code} {Q : State → Prop}
variable {D : va_G} {cy : Nat → ClassId} {ad : Nat → Nat} {A : Nat → Prop} {z : Nat}
/-! X8_centsOf (IIII)J -/
def fX8_centsOf_b112   (y0 : Int64) (σ : Mem) : Option (Int64 × Mem) :=
  some (y0, σ)
set_option maxRecDepth 20000 in
theorem wX8_centsOf_b112 {r : Int64} {σ' : Mem} (hC : CallFix p m c cX8_centsOf 9 s args WALL RX8) (hG : GS D cy A s) (hR : 4 ≤ R.frames ∧ 144 ≤ R.locals) (Kr : KrL p l e R s m args below meth c cX8_centsOf Q D cy ad A z r σ')   (y0 : Int64) (σ : Mem) (H : Heap) (locs : List Loc) (ls : Array Slot) (h : fX8_centsOf_b112 y0 σ = some (r, σ')) (hM : MS D cy ad A s.heap z σ H locs) (hl : lv_has ls 9 []) : W p l e R s m args below meth c H locs 0 0 Q (F0 m 112 ls [.long y0]) := by
  have hx := hC.1
  have hb := hC.2.1
  unfold fX8_centsOf_b112 at h
  obtain ⟨rfl, rfl⟩ := Prod.mk.inj (Option.some.inj h)
  exact Kr _ _ _ _ dX8_centsOf_112 hM
def fX8_centsOf_b83  (x7 : Int64)  (σ : Mem) : Option (Int64 × Mem) :=
  some (x7, σ)
set_option maxRecDepth 20000 in
theorem wX8_centsOf_b83 {r : Int64} {σ' : Mem} (hC : CallFix p m c cX8_centsOf 9 s args WALL RX8) (hG : GS D cy A s) (hR : 4 ≤ R.frames ∧ 144 ≤ R.locals) (Kr : KrL p l e R s m args below meth c cX8_centsOf Q D cy ad A z r σ')  (x7 : Int64)  (σ : Mem) (H : Heap) (locs : List Loc) (ls : Array Slot) (h : fX8_centsOf_b83 x7 σ = some (r, σ')) (hM : MS D cy ad A s.heap z σ H locs) (hl : lv_has ls 9 [(7, .long x7)]) : W p l e R s m args below meth c H locs 0 0 Q (F0 m 83 ls []) := by
  have hx := hC.1
  have hb := hC.2.1
  unfold fX8_centsOf_b83 at h
  refine lv_lload hx hb dX8_centsOf_83 (lv_at hl 0 rfl) ?_
  obtain ⟨rfl, rfl⟩ := Prod.mk.inj (Option.some.inj h)
  exact Kr _ _ _ _ dX8_centsOf_85 hM
def fX8_centsOf_b45    (σ : Mem) : Option (Int64 × Mem) :=
  some ((-1), σ)
set_option maxRecDepth 20000 in
theorem wX8_centsOf_b45 {r : Int64} {σ' : Mem} (hC : CallFix p m c cX8_centsOf 9 s args WALL RX8) (hG : GS D cy A s) (hR : 4 ≤ R.frames ∧ 144 ≤ R.locals) (Kr : KrL p l e R s m args below meth c cX8_centsOf Q D cy ad A z r σ')    (σ : Mem) (H : Heap) (locs : List Loc) (ls : Array Slot) (h : fX8_centsOf_b45  σ = some (r, σ')) (hM : MS D cy ad A s.heap z σ H locs) (hl : lv_has ls 9 []) : W p l e R s m args below meth c H locs 0 0 Q (F0 m 45 ls []) := by
  have hx := hC.1
  have hb := hC.2.1
  unfold fX8_centsOf_b45 at h
  refine lv_ldc2 (v := (-1)) hx hb hC.2.2.2.1 (hC.2.2.2.2 _ wk_X8_146) dX8_centsOf_45 ?_
  obtain ⟨rfl, rfl⟩ := Prod.mk.inj (Option.some.inj h)
  exact Kr _ _ _ _ dX8_centsOf_48 hM
def fX8_centsOf (o0 : Nat) (x1 : Int32) (x2 : Int32) (x3 : Int32) (x4 : Int32) (σ : Mem) : Option (Int64 × Mem) :=
  (fR σ 8 8 (some o0)).bind fun t1 =>
    (kT σ 3 t1).bind fun k2 =>
    b2 (fX3_at k2 x1 σ) fun t3 m4 =>
    if t3 = none then fX8_centsOf_b45 m4
    else b2 (fX8_isWithin x2 1 15 m4) fun t6 m7 =>
      if t6 = 0 then fX8_centsOf_b45 m7
      else b2 (fX8_isWithin x3 0 23 m7) fun t9 m10 =>
        if t9 = 0 then fX8_centsOf_b45 m10
        else b2 (fX8_isWithin x4 0 5 m10) fun t12 m13 =>
          if t12 = 0 then fX8_centsOf_b45 m13
          else (fR m13 8 2 (some o0)).bind fun t15 =>
            (kT m13 7 t15).bind fun k16 =>
            b2 (fX7_together k16 x2 x3 m13) fun t17 m18 =>
            (kT m18 2 t3).bind fun k19 =>
            b2 (fX2_monthCents k19 t17 m18) fun t20 m21 =>
            if t20 = (-1) then fX8_centsOf_b83 t20 m21
            else if x4 = 0 then fX8_centsOf_b83 t20 m21
              else if x4 = 1 then (fI m21 2 3 t3).bind fun t28 =>
                  fX8_centsOf_b112 ((t28 : Int32).toInt64) m21
                else (kT m21 2 t3).bind fun k25 =>
                  b2 (fX2_partCents k25 t17 (x4 - 2) m21) fun t26 m27 =>
                  fX8_centsOf_b112 t26 m27
set_option maxRecDepth 20000 in
theorem wX8_centsOf {r : Int64} {σ' : Mem} (hC : CallFix p m c cX8_centsOf 9 s args WALL RX8) (hG : GS D cy A s) (hR : 4 ≤ R.frames ∧ 144 ≤ R.locals) (Kr : KrL p l e R s m args below meth c cX8_centsOf Q D cy ad A z r σ') (o0 : Nat) (x1 : Int32) (x2 : Int32) (x3 : Int32) (x4 : Int32) (σ : Mem) (H : Heap) (locs : List Loc) (ls : Array Slot) (h : fX8_centsOf o0 x1 x2 x3 x4 σ = some (r, σ')) (hM : MS D cy ad A s.heap z σ H locs) (hl : lv_has ls 9 [(0, va_rf (Option.map ad (some o0))), (1, .int x1), (2, .int x2), (3, .int x3), (4, .int x4)]) : W p l e R s m args below meth c H locs 0 0 Q (F0 m 0 ls []) := by
  have hx := hC.1
  have hb := hC.2.1
  unfold fX8_centsOf at h
  refine lr_aload_n hx hb dX8_centsOf_0 rfl (lv_at hl 0 rfl) ?_
  obtain ⟨t1, e_t1, h⟩ := bn h
  refine gf_X8_59 hC hG hM e_t1 dX8_centsOf_1 ?_
  refine lv_iload_n hx hb dX8_centsOf_4 rfl (lv_at hl 1 rfl) ?_
  obtain ⟨k2, e_k2, h⟩ := bn h
  obtain ⟨t3, m4, e_m4, h⟩ := b2_elim h
  refine cs_X8_94 e_k2 hC hG hM (cX3_at_ok e_m4) ⟨by omega, by omega⟩ hl.1 (by first | exact Nat.le_of_ble_eq_true rfl | simp [va_cat, vcI, vcL, vcR]) dX8_centsOf_5 (fun H locs hM => ?_)
  refine lr_astore (lv' := [(5, va_rf (Option.map ad t3)), (0, va_rf (Option.map ad (some o0))), (1, .int x1), (2, .int x2), (3, .int x3), (4, .int x4)]) hx hb dX8_centsOf_8 hl (by decide) (by first | rfl | simp [va_cat]) (fun ls hl => ?_)
  refine lr_aload hx hb dX8_centsOf_10 (lv_at hl 0 rfl) ?_
  refine lr_ifnull (tgt := 45) hx hb dX8_centsOf_12 (by decide) (fun c5 => ?_) (fun c5 => ?_)
  · rw [if_pos c5] at h
    exact wX8_centsOf_b45 hC hG hR Kr _ _ _ _ h hM (lv_sub hl [] rfl)
  · rw [if_neg c5] at h
    refine lv_iload_n hx hb dX8_centsOf_15 rfl (lv_at hl 3 rfl) ?_
    refine lv_iconst (v := 1) hx hb dX8_centsOf_16 (by decide) ?_
    refine lv_bipush (v := 15) hx hb dX8_centsOf_17 (by decide) ?_
    obtain ⟨t6, m7, e_m7, h⟩ := b2_elim h
    refine cs_X8_148 hC hG hM (cX8_isWithin_ok e_m7) ⟨by omega, by omega⟩ hl.1 (by first | exact Nat.le_of_ble_eq_true rfl | simp [va_cat, vcI, vcL, vcR]) dX8_centsOf_19 (fun H locs hM => ?_)
    refine lv_if_eq (tgt := 45) hx hb dX8_centsOf_22 (by decide) (fun c8 => ?_) (fun c8 => ?_)
    · rw [if_pos c8] at h
      exact wX8_centsOf_b45 hC hG hR Kr _ _ _ _ h hM (lv_sub hl [] rfl)
    · rw [if_neg c8] at h
      refine lv_iload_n hx hb dX8_centsOf_25 rfl (lv_at hl 4 rfl) ?_
      refine lv_iconst (v := 0) hx hb dX8_centsOf_26 (by decide) ?_
      refine lv_bipush (v := 23) hx hb dX8_centsOf_27 (by decide) ?_
      obtain ⟨t9, m10, e_m10, h⟩ := b2_elim h
      refine cs_X8_148 hC hG hM (cX8_isWithin_ok e_m10) ⟨by omega, by omega⟩ hl.1 (by first | exact Nat.le_of_ble_eq_true rfl | simp [va_cat, vcI, vcL, vcR]) dX8_centsOf_29 (fun H locs hM => ?_)
      refine lv_if_eq (tgt := 45) hx hb dX8_centsOf_32 (by decide) (fun c11 => ?_) (fun c11 => ?_)
      · rw [if_pos c11] at h
        exact wX8_centsOf_b45 hC hG hR Kr _ _ _ _ h hM (lv_sub hl [] rfl)
      · rw [if_neg c11] at h
        refine lv_iload hx hb dX8_centsOf_35 (lv_at hl 5 rfl) ?_
        refine lv_iconst (v := 0) hx hb dX8_centsOf_37 (by decide) ?_
        refine lv_iconst (v := 5) hx hb dX8_centsOf_38 (by decide) ?_
        obtain ⟨t12, m13, e_m13, h⟩ := b2_elim h
        refine cs_X8_148 hC hG hM (cX8_isWithin_ok e_m13) ⟨by omega, by omega⟩ hl.1 (by first | exact Nat.le_of_ble_eq_true rfl | simp [va_cat, vcI, vcL, vcR]) dX8_centsOf_39 (fun H locs hM => ?_)
        refine lv_if_ne (tgt := 49) hx hb dX8_centsOf_42 (by decide) (fun c14 => ?_) (fun c14 => ?_)
        · rw [if_neg c14] at h
          refine lr_aload_n hx hb dX8_centsOf_49 rfl (lv_at hl 1 rfl) ?_
          obtain ⟨t15, e_t15, h⟩ := bn h
          refine gf_X8_28 hC hG hM e_t15 dX8_centsOf_50 ?_
          refine lv_iload_n hx hb dX8_centsOf_53 rfl (lv_at hl 3 rfl) ?_
          refine lv_iload_n hx hb dX8_centsOf_54 rfl (lv_at hl 4 rfl) ?_
          obtain ⟨k16, e_k16, h⟩ := bn h
          obtain ⟨t17, m18, e_m18, h⟩ := b2_elim h
          refine cs_X8_179 e_k16 hC hG hM (cX7_together_ok e_m18) ⟨by omega, by omega⟩ hl.1 (by first | exact Nat.le_of_ble_eq_true rfl | simp [va_cat, vcI, vcL, vcR]) dX8_centsOf_55 (fun H locs hM => ?_)
          refine lr_astore (lv' := [(6, va_rf (Option.map ad t17)), (5, va_rf (Option.map ad t3)), (0, va_rf (Option.map ad (some o0))), (1, .int x1), (2, .int x2), (3, .int x3), (4, .int x4)]) hx hb dX8_centsOf_58 hl (by decide) (by first | rfl | simp [va_cat]) (fun ls hl => ?_)
          refine lr_aload hx hb dX8_centsOf_60 (lv_at hl 1 rfl) ?_
          refine lr_aload hx hb dX8_centsOf_62 (lv_at hl 0 rfl) ?_
          obtain ⟨k19, e_k19, h⟩ := bn h
          obtain ⟨t20, m21, e_m21, h⟩ := b2_elim h
          refine cs_X8_183 e_k19 hC hG hM (cX2_monthCents_ok e_m21) ⟨by omega, by omega⟩ hl.1 (by first | exact Nat.le_of_ble_eq_true rfl | simp [va_cat, vcI, vcL, vcR]) dX8_centsOf_64 (fun H locs hM => ?_)
          refine lv_lstore (lv' := [(7, .long t20), (6, va_rf (Option.map ad t17)), (5, va_rf (Option.map ad t3)), (0, va_rf (Option.map ad (some o0))), (1, .int x1), (2, .int x2), (3, .int x3), (4, .int x4)]) hx hb dX8_centsOf_67 hl (by decide) (by first | rfl | simp [va_cat]) (fun ls hl => ?_)
          refine lv_lload hx hb dX8_centsOf_69 (lv_at hl 0 rfl) ?_
          refine lv_ldc2 (v := (-1)) hx hb hC.2.2.2.1 (hC.2.2.2.2 _ wk_X8_146) dX8_centsOf_71 ?_
          refine lc_eq (tgt := 83) hx hb dX8_centsOf_74 dX8_centsOf_75 (by decide) (fun c22 => ?_) (fun c22 => ?_)
          · rw [if_pos c22] at h
            exact wX8_centsOf_b83 hC hG hR Kr _ _ _ _ _ h hM (lv_sub hl [0] rfl)
          · rw [if_neg c22] at h
            refine lv_iload hx hb dX8_centsOf_78 (lv_at hl 7 rfl) ?_
            refine lv_if_ne (tgt := 86) hx hb dX8_centsOf_80 (by decide) (fun c23 => ?_) (fun c23 => ?_)
            · rw [if_neg c23] at h
              refine lv_iload hx hb dX8_centsOf_86 (lv_at hl 7 rfl) ?_
              refine lv_iconst (v := 1) hx hb dX8_centsOf_88 (by decide) ?_
              refine lv_icmp_ne (tgt := 101) hx hb dX8_centsOf_89 (by decide) (fun c24 => ?_) (fun c24 => ?_)
              · rw [if_neg c24] at h
                refine lr_aload hx hb dX8_centsOf_101 (lv_at hl 2 rfl) ?_
                refine lr_aload hx hb dX8_centsOf_103 (lv_at hl 1 rfl) ?_
                refine lv_iload hx hb dX8_centsOf_105 (lv_at hl 7 rfl) ?_
                refine lv_iconst (v := 2) hx hb dX8_centsOf_107 (by decide) ?_
                refine lv_isub hx hb dX8_centsOf_108 ?_
                obtain ⟨k25, e_k25, h⟩ := bn h
                obtain ⟨t26, m27, e_m27, h⟩ := b2_elim h
                refine cs_X8_187 e_k25 hC hG hM (cX2_partCents_ok e_m27) ⟨by omega, by omega⟩ hl.1 (by first | exact Nat.le_of_ble_eq_true rfl | simp [va_cat, vcI, vcL, vcR]) dX8_centsOf_109 (fun H locs hM => ?_)
                exact wX8_centsOf_b112 hC hG hR Kr _ _ _ _ _ h hM (lv_sub hl [] rfl)
              · rw [if_pos c24] at h
                refine lr_aload hx hb dX8_centsOf_92 (lv_at hl 2 rfl) ?_
                obtain ⟨t28, e_t28, h⟩ := bn h
                refine gf_X8_101 hC hG hM e_t28 dX8_centsOf_94 ?_
                refine lv_i2l hx hb dX8_centsOf_97 rfl ?_
                refine lv_goto (tgt := 112) hx hb dX8_centsOf_98 (by decide) ?_
                exact wX8_centsOf_b112 hC hG hR Kr _ _ _ _ _ h hM (lv_sub hl [] rfl)
            · rw [if_pos c23] at h
              exact wX8_centsOf_b83 hC hG hR Kr _ _ _ _ _ h hM (lv_sub hl [0] rfl)
        · rw [if_pos c14] at h
          exact wX8_centsOf_b45 hC hG hR Kr _ _ _ _ h hM (lv_sub hl [] rfl)
theorem cX8_centsOf_ok {l : Launch} {D : va_G} {cy : Nat → ClassId} {ad : Nat → Nat} {A : Nat → Prop} {z : Nat} {r : Int64} {σ' : Mem} {o0 : Nat} {x1 : Int32} {x2 : Int32} {x3 : Int32} {x4 : Int32} {σ : Mem} (h : fX8_centsOf o0 x1 x2 x3 x4 σ = some (r, σ')) : CtL l yX8_centsOf cX8_centsOf 9 (some .long) 4 [.ref (ad o0), .int x1, .int x2, .int x3, .int x4] D cy ad A z σ r σ' :=
  enterL (own := RX8) (by decide) rfl (Nat.le_of_ble_eq_true rfl) rfl (fun p e s m below meth c Q ls hC hG hM Kr hl => wX8_centsOf hC hG ⟨Nat.le_refl _, Nat.le_refl _⟩ Kr _ _ _ _ _ _ _ _ _ h hM hl)
/-! X9_bill (IIIJ)J -/
def fX9_bill_b37  (o0 : Nat)  (σ : Mem) : Option (Int64 × Mem) :=
  (kT σ 9 (some o0)).bind fun k1 =>
    b2 (fX9_refuse k1 σ) fun t2 m3 =>
    some ((t2 : Int32).toInt64, m3)
set_option maxRecDepth 20000 in
theorem wX9_bill_b37 {r : Int64} {σ' : Mem} (hC : CallFix p m c cX9_bill 6 s args WALL RX9) (hG : GS D cy A s) (hR : 4 ≤ R.frames ∧ 144 ≤ R.locals) (Kr : KrL p l e R s m args below meth c cX9_bill Q D cy ad A z r σ')  (o0 : Nat)  (σ : Mem) (H : Heap) (locs : List Loc) (ls : Array Slot) (h : fX9_bill_b37 o0 σ = some (r, σ')) (hM : MS D cy ad A s.heap z σ H locs) (hl : lv_has ls 6 [(0, va_rf (Option.map ad (some o0)))]) : W p l e R s m args below meth c H locs 0 0 Q (F0 m 37 ls []) := by
  have hx := hC.1
  have hb := hC.2.1
  unfold fX9_bill_b37 at h
  refine lr_aload_n hx hb dX9_bill_37 rfl (lv_at hl 0 rfl) ?_
  obtain ⟨k1, e_k1, h⟩ := bn h
  obtain ⟨t2, m3, e_m3, h⟩ := b2_elim h
  refine cs_X9_217 e_k1 hC hG hM (cX9_refuse_ok e_m3) ⟨by omega, by omega⟩ hl.1 (by first | exact Nat.le_of_ble_eq_true rfl | simp [va_cat, vcI, vcL, vcR]) dX9_bill_38 (fun H locs hM => ?_)
  refine lv_i2l hx hb dX9_bill_41 rfl ?_
  obtain ⟨rfl, rfl⟩ := Prod.mk.inj (Option.some.inj h)
  exact Kr _ _ _ _ dX9_bill_42 hM
def fX9_bill (o0 : Nat) (x1 : Int32) (x2 : Int32) (x3 : Int32) (x4 : Int64) (σ : Mem) : Option (Int64 × Mem) :=
  (kT σ 9 (some o0)).bind fun k1 =>
    b2 (fX9_isPlan k1 x1 σ) fun t2 m3 =>
    if t2 = 0 then fX9_bill_b37 o0 m3
    else b2 (fX9_isIn x2 4 m3) fun t5 m6 =>
      if t5 = 0 then fX9_bill_b37 o0 m6
      else b2 (fX9_isIn x3 24 m6) fun t8 m9 =>
        if t8 = 0 then fX9_bill_b37 o0 m9
        else (kT m9 9 (some o0)).bind fun k11 =>
          b2 (fX9_mayHave k11 x1 (1 <<< (x2 &&& 31)) x3 m9) fun t12 m13 =>
          if t12 = 0 then fX9_bill_b37 o0 m13
          else (pI m13 9 0 (some o0) 0).bind fun m15 =>
            (kT m15 9 (some o0)).bind fun k16 =>
            b2 (fX9_monthCost k16 x1 (1 <<< (x2 &&& 31)) x3 m15) fun t17 m18 =>
            some (x4 - t17, m18)
set_option maxRecDepth 20000 in
theorem wX9_bill {r : Int64} {σ' : Mem} (hC : CallFix p m c cX9_bill 6 s args WALL RX9) (hG : GS D cy A s) (hR : 4 ≤ R.frames ∧ 144 ≤ R.locals) (Kr : KrL p l e R s m args below meth c cX9_bill Q D cy ad A z r σ') (o0 : Nat) (x1 : Int32) (x2 : Int32) (x3 : Int32) (x4 : Int64) (σ : Mem) (H : Heap) (locs : List Loc) (ls : Array Slot) (h : fX9_bill o0 x1 x2 x3 x4 σ = some (r, σ')) (hM : MS D cy ad A s.heap z σ H locs) (hl : lv_has ls 6 [(0, va_rf (Option.map ad (some o0))), (1, .int x1), (2, .int x2), (3, .int x3), (4, .long x4)]) : W p l e R s m args below meth c H locs 0 0 Q (F0 m 0 ls []) := by
  have hx := hC.1
  have hb := hC.2.1
  unfold fX9_bill at h
  refine lr_aload_n hx hb dX9_bill_0 rfl (lv_at hl 0 rfl) ?_
  refine lv_iload_n hx hb dX9_bill_1 rfl (lv_at hl 1 rfl) ?_
  obtain ⟨k1, e_k1, h⟩ := bn h
  obtain ⟨t2, m3, e_m3, h⟩ := b2_elim h
  refine cs_X9_214 e_k1 hC hG hM (cX9_isPlan_ok e_m3) ⟨by omega, by omega⟩ hl.1 (by first | exact Nat.le_of_ble_eq_true rfl | simp [va_cat, vcI, vcL, vcR]) dX9_bill_2 (fun H locs hM => ?_)
  refine lv_if_eq (tgt := 37) hx hb dX9_bill_5 (by decide) (fun c4 => ?_) (fun c4 => ?_)
  · rw [if_pos c4] at h
    exact wX9_bill_b37 hC hG hR Kr _ _ _ _ _ h hM (lv_sub hl [0] rfl)
  · rw [if_neg c4] at h
    refine lv_iload_n hx hb dX9_bill_8 rfl (lv_at hl 2 rfl) ?_
    refine lv_iconst (v := 4) hx hb dX9_bill_9 (by decide) ?_
    obtain ⟨t5, m6, e_m6, h⟩ := b2_elim h
    refine cs_X9_224 hC hG hM (cX9_isIn_ok e_m6) ⟨by omega, by omega⟩ hl.1 (by first | exact Nat.le_of_ble_eq_true rfl | simp [va_cat, vcI, vcL, vcR]) dX9_bill_10 (fun H locs hM => ?_)
    refine lv_if_eq (tgt := 37) hx hb dX9_bill_13 (by decide) (fun c7 => ?_) (fun c7 => ?_)
    · rw [if_pos c7] at h
      exact wX9_bill_b37 hC hG hR Kr _ _ _ _ _ h hM (lv_sub hl [0] rfl)
    · rw [if_neg c7] at h
      refine lv_iload_n hx hb dX9_bill_16 rfl (lv_at hl 3 rfl) ?_
      refine lv_bipush (v := 24) hx hb dX9_bill_17 (by decide) ?_
      obtain ⟨t8, m9, e_m9, h⟩ := b2_elim h
      refine cs_X9_224 hC hG hM (cX9_isIn_ok e_m9) ⟨by omega, by omega⟩ hl.1 (by first | exact Nat.le_of_ble_eq_true rfl | simp [va_cat, vcI, vcL, vcR]) dX9_bill_19 (fun H locs hM => ?_)
      refine lv_if_eq (tgt := 37) hx hb dX9_bill_22 (by decide) (fun c10 => ?_) (fun c10 => ?_)
      · rw [if_pos c10] at h
        exact wX9_bill_b37 hC hG hR Kr _ _ _ _ _ h hM (lv_sub hl [0] rfl)
      · rw [if_neg c10] at h
        refine lr_aload_n hx hb dX9_bill_25 rfl (lv_at hl 0 rfl) ?_
        refine lv_iload_n hx hb dX9_bill_26 rfl (lv_at hl 1 rfl) ?_
        refine lv_iconst (v := 1) hx hb dX9_bill_27 (by decide) ?_
        refine lv_iload_n hx hb dX9_bill_28 rfl (lv_at hl 2 rfl) ?_
        refine lv_ishl hx hb dX9_bill_29 ?_
        refine lv_iload_n hx hb dX9_bill_30 rfl (lv_at hl 3 rfl) ?_
        obtain ⟨k11, e_k11, h⟩ := bn h
        obtain ⟨t12, m13, e_m13, h⟩ := b2_elim h
        refine cs_X9_246 e_k11 hC hG hM (cX9_mayHave_ok e_m13) ⟨by omega, by omega⟩ hl.1 (by first | exact Nat.le_of_ble_eq_true rfl | simp [va_cat, vcI, vcL, vcR]) dX9_bill_31 (fun H locs hM => ?_)
        refine lv_if_ne (tgt := 43) hx hb dX9_bill_34 (by decide) (fun c14 => ?_) (fun c14 => ?_)
        · rw [if_neg c14] at h
          refine lr_aload_n hx hb dX9_bill_43 rfl (lv_at hl 0 rfl) ?_
          refine lv_iconst (v := 0) hx hb dX9_bill_44 (by decide) ?_
          obtain ⟨m15, e_m15, h⟩ := bn h
          refine pf_X9_87 hC hG hM e_m15 dX9_bill_45 (fun H locs hM => ?_)
          refine lv_lload hx hb dX9_bill_48 (lv_at hl 4 rfl) ?_
          refine lr_aload_n hx hb dX9_bill_50 rfl (lv_at hl 0 rfl) ?_
          refine lv_iload_n hx hb dX9_bill_51 rfl (lv_at hl 1 rfl) ?_
          refine lv_iconst (v := 1) hx hb dX9_bill_52 (by decide) ?_
          refine lv_iload_n hx hb dX9_bill_53 rfl (lv_at hl 2 rfl) ?_
          refine lv_ishl hx hb dX9_bill_54 ?_
          refine lv_iload_n hx hb dX9_bill_55 rfl (lv_at hl 3 rfl) ?_
          obtain ⟨k16, e_k16, h⟩ := bn h
          obtain ⟨t17, m18, e_m18, h⟩ := b2_elim h
          refine cs_X9_250 e_k16 hC hG hM (cX9_monthCost_ok e_m18) ⟨by omega, by omega⟩ hl.1 (by first | exact Nat.le_of_ble_eq_true rfl | simp [va_cat, vcI, vcL, vcR]) dX9_bill_56 (fun H locs hM => ?_)
          refine lv_lsub hx hb dX9_bill_59 ?_
          obtain ⟨rfl, rfl⟩ := Prod.mk.inj (Option.some.inj h)
          exact Kr _ _ _ _ dX9_bill_60 hM
        · rw [if_pos c14] at h
          exact wX9_bill_b37 hC hG hR Kr _ _ _ _ _ h hM (lv_sub hl [0] rfl)
theorem cX9_bill_ok {l : Launch} {D : va_G} {cy : Nat → ClassId} {ad : Nat → Nat} {A : Nat → Prop} {z : Nat} {r : Int64} {σ' : Mem} {o0 : Nat} {x1 : Int32} {x2 : Int32} {x3 : Int32} {x4 : Int64} {σ : Mem} (h : fX9_bill o0 x1 x2 x3 x4 σ = some (r, σ')) : CtL l yX9_bill cX9_bill 6 (some .long) 4 [.ref (ad o0), .int x1, .int x2, .int x3, .long x4] D cy ad A z σ r σ' :=
  enterL (own := RX9) (by decide) rfl (Nat.le_of_ble_eq_true rfl) rfl (fun p e s m below meth c Q ls hC hG hM Kr hl => wX9_bill hC hG ⟨Nat.le_refl _, Nat.le_refl _⟩ Kr _ _ _ _ _ _ _ _ _ h hM hl)
/-! X9_cost (IIII)J -/
def fX9_cost_b102   (y0 : Int64) (σ : Mem) : Option (Int64 × Mem) :=
  some (y0, σ)
set_option maxRecDepth 20000 in
theorem wX9_cost_b102 {r : Int64} {σ' : Mem} (hC : CallFix p m c cX9_cost 5 s args WALL RX9) (hG : GS D cy A s) (hR : 4 ≤ R.frames ∧ 144 ≤ R.locals) (Kr : KrL p l e R s m args below meth c cX9_cost Q D cy ad A z r σ')   (y0 : Int64) (σ : Mem) (H : Heap) (locs : List Loc) (ls : Array Slot) (h : fX9_cost_b102 y0 σ = some (r, σ')) (hM : MS D cy ad A s.heap z σ H locs) (hl : lv_has ls 5 []) : W p l e R s m args below meth c H locs 0 0 Q (F0 m 102 ls [.long y0]) := by
  have hx := hC.1
  have hb := hC.2.1
  unfold fX9_cost_b102 at h
  obtain ⟨rfl, rfl⟩ := Prod.mk.inj (Option.some.inj h)
  exact Kr _ _ _ _ dX9_cost_102 hM
def fX9_cost_b49  (o0 : Nat)  (σ : Mem) : Option (Int64 × Mem) :=
  (kT σ 9 (some o0)).bind fun k1 =>
    b2 (fX9_refuse k1 σ) fun t2 m3 =>
    some ((t2 : Int32).toInt64, m3)
set_option maxRecDepth 20000 in
theorem wX9_cost_b49 {r : Int64} {σ' : Mem} (hC : CallFix p m c cX9_cost 5 s args WALL RX9) (hG : GS D cy A s) (hR : 4 ≤ R.frames ∧ 144 ≤ R.locals) (Kr : KrL p l e R s m args below meth c cX9_cost Q D cy ad A z r σ')  (o0 : Nat)  (σ : Mem) (H : Heap) (locs : List Loc) (ls : Array Slot) (h : fX9_cost_b49 o0 σ = some (r, σ')) (hM : MS D cy ad A s.heap z σ H locs) (hl : lv_has ls 5 [(0, va_rf (Option.map ad (some o0)))]) : W p l e R s m args below meth c H locs 0 0 Q (F0 m 49 ls []) := by
  have hx := hC.1
  have hb := hC.2.1
  unfold fX9_cost_b49 at h
  refine lr_aload_n hx hb dX9_cost_49 rfl (lv_at hl 0 rfl) ?_
  obtain ⟨k1, e_k1, h⟩ := bn h
  obtain ⟨t2, m3, e_m3, h⟩ := b2_elim h
  refine cs_X9_217 e_k1 hC hG hM (cX9_refuse_ok e_m3) ⟨by omega, by omega⟩ hl.1 (by first | exact Nat.le_of_ble_eq_true rfl | simp [va_cat, vcI, vcL, vcR]) dX9_cost_50 (fun H locs hM => ?_)
  refine lv_i2l hx hb dX9_cost_53 rfl ?_
  obtain ⟨rfl, rfl⟩ := Prod.mk.inj (Option.some.inj h)
  exact Kr _ _ _ _ dX9_cost_54 hM
def fX9_cost (o0 : Nat) (x1 : Int32) (x2 : Int32) (x3 : Int32) (x4 : Int32) (σ : Mem) : Option (Int64 × Mem) :=
  (kT σ 9 (some o0)).bind fun k1 =>
    b2 (fX9_isPlan k1 x1 σ) fun t2 m3 =>
    if t2 = 0 then fX9_cost_b49 o0 m3
    else if x2 < 1 then fX9_cost_b49 o0 m3
      else if 15 < x2 then fX9_cost_b49 o0 m3
        else b2 (fX9_isIn x3 24 m3) fun t7 m8 =>
          if t7 = 0 then fX9_cost_b49 o0 m8
          else if x4 < 0 then fX9_cost_b49 o0 m8
            else if 5 < x4 then fX9_cost_b49 o0 m8
              else (kT m8 9 (some o0)).bind fun k12 =>
                b2 (fX9_mayHave k12 x1 x2 x3 m8) fun t13 m14 =>
                if t13 = 0 then fX9_cost_b49 o0 m14
                else (pI m14 9 0 (some o0) 0).bind fun m16 =>
                  if x4 = 0 then (kT m16 9 (some o0)).bind fun k24 =>
                    b2 (fX9_monthCost k24 x1 x2 x3 m16) fun t25 m26 =>
                    fX9_cost_b102 t25 m26
                  else if x4 = 1 then (fR m16 9 12 (some o0)).bind fun t22 =>
                      (aI m16 11 t22 x1).bind fun t23 =>
                      fX9_cost_b102 ((t23 : Int32).toInt64) m16
                    else (kT m16 9 (some o0)).bind fun k19 =>
                      b2 (fX9_serviceCost k19 x1 x2 (x4 - 2) x3 m16) fun t20 m21 =>
                      fX9_cost_b102 t20 m21
set_option maxRecDepth 20000 in
theorem wX9_cost {r : Int64} {σ' : Mem} (hC : CallFix p m c cX9_cost 5 s args WALL RX9) (hG : GS D cy A s) (hR : 4 ≤ R.frames ∧ 144 ≤ R.locals) (Kr : KrL p l e R s m args below meth c cX9_cost Q D cy ad A z r σ') (o0 : Nat) (x1 : Int32) (x2 : Int32) (x3 : Int32) (x4 : Int32) (σ : Mem) (H : Heap) (locs : List Loc) (ls : Array Slot) (h : fX9_cost o0 x1 x2 x3 x4 σ = some (r, σ')) (hM : MS D cy ad A s.heap z σ H locs) (hl : lv_has ls 5 [(0, va_rf (Option.map ad (some o0))), (1, .int x1), (2, .int x2), (3, .int x3), (4, .int x4)]) : W p l e R s m args below meth c H locs 0 0 Q (F0 m 0 ls []) := by
  have hx := hC.1
  have hb := hC.2.1
  unfold fX9_cost at h
  refine lr_aload_n hx hb dX9_cost_0 rfl (lv_at hl 0 rfl) ?_
  refine lv_iload_n hx hb dX9_cost_1 rfl (lv_at hl 1 rfl) ?_
  obtain ⟨k1, e_k1, h⟩ := bn h
  obtain ⟨t2, m3, e_m3, h⟩ := b2_elim h
  refine cs_X9_214 e_k1 hC hG hM (cX9_isPlan_ok e_m3) ⟨by omega, by omega⟩ hl.1 (by first | exact Nat.le_of_ble_eq_true rfl | simp [va_cat, vcI, vcL, vcR]) dX9_cost_2 (fun H locs hM => ?_)
  refine lv_if_eq (tgt := 49) hx hb dX9_cost_5 (by decide) (fun c4 => ?_) (fun c4 => ?_)
  · rw [if_pos c4] at h
    exact wX9_cost_b49 hC hG hR Kr _ _ _ _ _ h hM (lv_sub hl [0] rfl)
  · rw [if_neg c4] at h
    refine lv_iload_n hx hb dX9_cost_8 rfl (lv_at hl 2 rfl) ?_
    refine lv_iconst (v := 1) hx hb dX9_cost_9 (by decide) ?_
    refine lv_icmp_lt (tgt := 49) hx hb dX9_cost_10 (by decide) (fun c5 => ?_) (fun c5 => ?_)
    · rw [if_pos c5] at h
      exact wX9_cost_b49 hC hG hR Kr _ _ _ _ _ h hM (lv_sub hl [0] rfl)
    · rw [if_neg c5] at h
      refine lv_iload_n hx hb dX9_cost_13 rfl (lv_at hl 2 rfl) ?_
      refine lv_bipush (v := 15) hx hb dX9_cost_14 (by decide) ?_
      refine lv_icmp_gt (tgt := 49) hx hb dX9_cost_16 (by decide) (fun c6 => ?_) (fun c6 => ?_)
      · rw [if_pos c6] at h
        exact wX9_cost_b49 hC hG hR Kr _ _ _ _ _ h hM (lv_sub hl [0] rfl)
      · rw [if_neg c6] at h
        refine lv_iload_n hx hb dX9_cost_19 rfl (lv_at hl 3 rfl) ?_
        refine lv_bipush (v := 24) hx hb dX9_cost_20 (by decide) ?_
        obtain ⟨t7, m8, e_m8, h⟩ := b2_elim h
        refine cs_X9_224 hC hG hM (cX9_isIn_ok e_m8) ⟨by omega, by omega⟩ hl.1 (by first | exact Nat.le_of_ble_eq_true rfl | simp [va_cat, vcI, vcL, vcR]) dX9_cost_22 (fun H locs hM => ?_)
        refine lv_if_eq (tgt := 49) hx hb dX9_cost_25 (by decide) (fun c9 => ?_) (fun c9 => ?_)
        · rw [if_pos c9] at h
          exact wX9_cost_b49 hC hG hR Kr _ _ _ _ _ h hM (lv_sub hl [0] rfl)
        · rw [if_neg c9] at h
          refine lv_iload hx hb dX9_cost_28 (lv_at hl 4 rfl) ?_
          refine lv_if_lt (tgt := 49) hx hb dX9_cost_30 (by decide) (fun c10 => ?_) (fun c10 => ?_)
          · rw [if_pos c10] at h
            exact wX9_cost_b49 hC hG hR Kr _ _ _ _ _ h hM (lv_sub hl [0] rfl)
          · rw [if_neg c10] at h
            refine lv_iload hx hb dX9_cost_33 (lv_at hl 4 rfl) ?_
            refine lv_iconst (v := 5) hx hb dX9_cost_35 (by decide) ?_
            refine lv_icmp_gt (tgt := 49) hx hb dX9_cost_36 (by decide) (fun c11 => ?_) (fun c11 => ?_)
            · rw [if_pos c11] at h
              exact wX9_cost_b49 hC hG hR Kr _ _ _ _ _ h hM (lv_sub hl [0] rfl)
            · rw [if_neg c11] at h
              refine lr_aload_n hx hb dX9_cost_39 rfl (lv_at hl 0 rfl) ?_
              refine lv_iload_n hx hb dX9_cost_40 rfl (lv_at hl 1 rfl) ?_
              refine lv_iload_n hx hb dX9_cost_41 rfl (lv_at hl 2 rfl) ?_
              refine lv_iload_n hx hb dX9_cost_42 rfl (lv_at hl 3 rfl) ?_
              obtain ⟨k12, e_k12, h⟩ := bn h
              obtain ⟨t13, m14, e_m14, h⟩ := b2_elim h
              refine cs_X9_246 e_k12 hC hG hM (cX9_mayHave_ok e_m14) ⟨by omega, by omega⟩ hl.1 (by first | exact Nat.le_of_ble_eq_true rfl | simp [va_cat, vcI, vcL, vcR]) dX9_cost_43 (fun H locs hM => ?_)
              refine lv_if_ne (tgt := 55) hx hb dX9_cost_46 (by decide) (fun c15 => ?_) (fun c15 => ?_)
              · rw [if_neg c15] at h
                refine lr_aload_n hx hb dX9_cost_55 rfl (lv_at hl 0 rfl) ?_
                refine lv_iconst (v := 0) hx hb dX9_cost_56 (by decide) ?_
                obtain ⟨m16, e_m16, h⟩ := bn h
                refine pf_X9_87 hC hG hM e_m16 dX9_cost_57 (fun H locs hM => ?_)
                refine lv_iload hx hb dX9_cost_60 (lv_at hl 4 rfl) ?_
                refine lv_if_ne (tgt := 75) hx hb dX9_cost_62 (by decide) (fun c17 => ?_) (fun c17 => ?_)
                · rw [if_neg c17] at h
                  refine lv_iload hx hb dX9_cost_75 (lv_at hl 4 rfl) ?_
                  refine lv_iconst (v := 1) hx hb dX9_cost_77 (by decide) ?_
                  refine lv_icmp_ne (tgt := 91) hx hb dX9_cost_78 (by decide) (fun c18 => ?_) (fun c18 => ?_)
                  · rw [if_neg c18] at h
                    refine lr_aload_n hx hb dX9_cost_91 rfl (lv_at hl 0 rfl) ?_
                    refine lv_iload_n hx hb dX9_cost_92 rfl (lv_at hl 1 rfl) ?_
                    refine lv_iload_n hx hb dX9_cost_93 rfl (lv_at hl 2 rfl) ?_
                    refine lv_iload hx hb dX9_cost_94 (lv_at hl 4 rfl) ?_
                    refine lv_iconst (v := 2) hx hb dX9_cost_96 (by decide) ?_
                    refine lv_isub hx hb dX9_cost_97 ?_
                    refine lv_iload_n hx hb dX9_cost_98 rfl (lv_at hl 3 rfl) ?_
                    obtain ⟨k19, e_k19, h⟩ := bn h
                    obtain ⟨t20, m21, e_m21, h⟩ := b2_elim h
                    refine cs_X9_242 e_k19 hC hG hM (cX9_serviceCost_ok e_m21) ⟨by omega, by omega⟩ hl.1 (by first | exact Nat.le_of_ble_eq_true rfl | simp [va_cat, vcI, vcL, vcR]) dX9_cost_99 (fun H locs hM => ?_)
                    exact wX9_cost_b102 hC hG hR Kr _ _ _ _ _ h hM (lv_sub hl [] rfl)
                  · rw [if_pos c18] at h
                    refine lr_aload_n hx hb dX9_cost_81 rfl (lv_at hl 0 rfl) ?_
                    obtain ⟨t22, e_t22, h⟩ := bn h
                    refine gf_X9_17 hC hG hM e_t22 dX9_cost_82 ?_
                    refine lv_iload_n hx hb dX9_cost_85 rfl (lv_at hl 1 rfl) ?_
                    obtain ⟨t23, e_t23, h⟩ := bn h
                    refine g_iald hx hb hG hM e_t23 dX9_cost_86 ?_
                    refine lv_i2l hx hb dX9_cost_87 rfl ?_
                    refine lv_goto (tgt := 102) hx hb dX9_cost_88 (by decide) ?_
                    exact wX9_cost_b102 hC hG hR Kr _ _ _ _ _ h hM (lv_sub hl [] rfl)
                · rw [if_pos c17] at h
                  refine lr_aload_n hx hb dX9_cost_65 rfl (lv_at hl 0 rfl) ?_
                  refine lv_iload_n hx hb dX9_cost_66 rfl (lv_at hl 1 rfl) ?_
                  refine lv_iload_n hx hb dX9_cost_67 rfl (lv_at hl 2 rfl) ?_
                  refine lv_iload_n hx hb dX9_cost_68 rfl (lv_at hl 3 rfl) ?_
                  obtain ⟨k24, e_k24, h⟩ := bn h
                  obtain ⟨t25, m26, e_m26, h⟩ := b2_elim h
                  refine cs_X9_250 e_k24 hC hG hM (cX9_monthCost_ok e_m26) ⟨by omega, by omega⟩ hl.1 (by first | exact Nat.le_of_ble_eq_true rfl | simp [va_cat, vcI, vcL, vcR]) dX9_cost_69 (fun H locs hM => ?_)
                  refine lv_goto (tgt := 102) hx hb dX9_cost_72 (by decide) ?_
                  exact wX9_cost_b102 hC hG hR Kr _ _ _ _ _ h hM (lv_sub hl [] rfl)
              · rw [if_pos c15] at h
                exact wX9_cost_b49 hC hG hR Kr _ _ _ _ _ h hM (lv_sub hl [0] rfl)
theorem cX9_cost_ok {l : Launch} {D : va_G} {cy : Nat → ClassId} {ad : Nat → Nat} {A : Nat → Prop} {z : Nat} {r : Int64} {σ' : Mem} {o0 : Nat} {x1 : Int32} {x2 : Int32} {x3 : Int32} {x4 : Int32} {σ : Mem} (h : fX9_cost o0 x1 x2 x3 x4 σ = some (r, σ')) : CtL l yX9_cost cX9_cost 5 (some .long) 4 [.ref (ad o0), .int x1, .int x2, .int x3, .int x4] D cy ad A z σ r σ' :=
  enterL (own := RX9) (by decide) rfl (Nat.le_of_ble_eq_true rfl) rfl (fun p e s m below meth c Q ls hC hG hM Kr hl => wX9_cost hC hG ⟨Nat.le_refl _, Nat.le_refl _⟩ Kr _ _ _ _ _ _ _ _ _ h hM hl)
/-! X9_find (III)I -/
def fX9_find_b447  (x4 : Int32)  (σ : Mem) : Option (Int32 × Mem) :=
  some (x4, σ)
set_option maxRecDepth 20000 in
theorem wX9_find_b447 {r : Int32} {σ' : Mem} (hC : CallFix p m c cX9_find 11 s args WALL RX9) (hG : GS D cy A s) (hR : 4 ≤ R.frames ∧ 144 ≤ R.locals) (Kr : KrI p l e R s m args below meth c cX9_find Q D cy ad A z r σ')  (x4 : Int32)  (σ : Mem) (H : Heap) (locs : List Loc) (ls : Array Slot) (h : fX9_find_b447 x4 σ = some (r, σ')) (hM : MS D cy ad A s.heap z σ H locs) (hl : lv_has ls 11 [(4, .int x4)]) : W p l e R s m args below meth c H locs 0 0 Q (F0 m 447 ls []) := by
  have hx := hC.1
  have hb := hC.2.1
  unfold fX9_find_b447 at h
  refine lv_iload hx hb dX9_find_447 (lv_at hl 0 rfl) ?_
  obtain ⟨rfl, rfl⟩ := Prod.mk.inj (Option.some.inj h)
  exact Kr _ _ _ _ dX9_find_449 hM
def fX9_find_b441 (rc328 : Nat → Int32 → Int32 → Int32 → Int32 → Mem → Option (Int32 × Mem)) (o0 : Nat) (x2 : Int32) (x3 : Int32) (x4 : Int32) (x5 : Int32)  (σ : Mem) : Option (Int32 × Mem) :=
  bd (x5 + 1) fun t1 =>
    rc328 o0 x2 x3 x4 t1 σ
set_option maxRecDepth 20000 in
theorem wX9_find_b441 {r : Int32} {σ' : Mem} (hC : CallFix p m c cX9_find 11 s args WALL RX9) (hG : GS D cy A s) (hR : 4 ≤ R.frames ∧ 144 ≤ R.locals) (Kr : KrI p l e R s m args below meth c cX9_find Q D cy ad A z r σ') {rc328 : Nat → Int32 → Int32 → Int32 → Int32 → Mem → Option (Int32 × Mem)} (Kc328 : ∀ (o0 : Nat) (x2 : Int32) (x3 : Int32) (x4 : Int32) (x5 : Int32) (τ : Mem) (H : Heap) (locs : List Loc) (ls : Array Slot), rc328 o0 x2 x3 x4 x5 τ = some (r, σ') → MS D cy ad A s.heap z τ H locs → lv_has ls 11 [(0, va_rf (Option.map ad (some o0))), (2, .int x2), (3, .int x3), (4, .int x4), (5, .int x5)] → W p l e R s m args below meth c H locs 0 0 Q (F0 m 328 ls [])) (o0 : Nat) (x2 : Int32) (x3 : Int32) (x4 : Int32) (x5 : Int32)  (σ : Mem) (H : Heap) (locs : List Loc) (ls : Array Slot) (h : fX9_find_b441 rc328 o0 x2 x3 x4 x5 σ = some (r, σ')) (hM : MS D cy ad A s.heap z σ H locs) (hl : lv_has ls 11 [(0, va_rf (Option.map ad (some o0))), (2, .int x2), (3, .int x3), (4, .int x4), (5, .int x5)]) : W p l e R s m args below meth c H locs 0 0 Q (F0 m 441 ls []) := by
  have hx := hC.1
  have hb := hC.2.1
  unfold fX9_find_b441 at h
  obtain ⟨t1, e_t1, h⟩ := bd_elim h
  refine lv_iinc (v := t1) (lv' := [(5, .int t1), (0, va_rf (Option.map ad (some o0))), (2, .int x2), (3, .int x3), (4, .int x4)]) hx hb dX9_find_441 hl (k := 4) rfl (by rw [e_t1]; rfl) (by decide) (by first | rfl | simp [va_cat]) (fun ls hl => ?_)
  refine lv_goto (tgt := 328) hx hb dX9_find_444 (by decide) ?_
  exact Kc328 _ _ _ _ _ _ _ _ _ h hM (lv_sub hl [1, 2, 3, 4, 0] rfl)
def fX9_find_b435 (rc328 : Nat → Int32 → Int32 → Int32 → Int32 → Mem → Option (Int32 × Mem)) (rc340 : Nat → Int32 → Int32 → Int32 → Int32 → Int32 → Mem → Option (Int32 × Mem)) (o0 : Nat) (x2 : Int32) (x3 : Int32) (x4 : Int32) (x5 : Int32) (x6 : Int32)  (σ : Mem) : Option (Int32 × Mem) :=
  bd (x6 + 1) fun t1 =>
    rc340 o0 x2 x3 x4 x5 t1 σ
set_option maxRecDepth 20000 in
theorem wX9_find_b435 {r : Int32} {σ' : Mem} (hC : CallFix p m c cX9_find 11 s args WALL RX9) (hG : GS D cy A s) (hR : 4 ≤ R.frames ∧ 144 ≤ R.locals) (Kr : KrI p l e R s m args below meth c cX9_find Q D cy ad A z r σ') {rc328 : Nat → Int32 → Int32 → Int32 → Int32 → Mem → Option (Int32 × Mem)} (Kc328 : ∀ (o0 : Nat) (x2 : Int32) (x3 : Int32) (x4 : Int32) (x5 : Int32) (τ : Mem) (H : Heap) (locs : List Loc) (ls : Array Slot), rc328 o0 x2 x3 x4 x5 τ = some (r, σ') → MS D cy ad A s.heap z τ H locs → lv_has ls 11 [(0, va_rf (Option.map ad (some o0))), (2, .int x2), (3, .int x3), (4, .int x4), (5, .int x5)] → W p l e R s m args below meth c H locs 0 0 Q (F0 m 328 ls [])) {rc340 : Nat → Int32 → Int32 → Int32 → Int32 → Int32 → Mem → Option (Int32 × Mem)} (Kc340 : ∀ (o0 : Nat) (x2 : Int32) (x3 : Int32) (x4 : Int32) (x5 : Int32) (x6 : Int32) (τ : Mem) (H : Heap) (locs : List Loc) (ls : Array Slot), rc340 o0 x2 x3 x4 x5 x6 τ = some (r, σ') → MS D cy ad A s.heap z τ H locs → lv_has ls 11 [(0, va_rf (Option.map ad (some o0))), (2, .int x2), (3, .int x3), (4, .int x4), (5, .int x5), (6, .int x6)] → W p l e R s m args below meth c H locs 0 0 Q (F0 m 340 ls [])) (o0 : Nat) (x2 : Int32) (x3 : Int32) (x4 : Int32) (x5 : Int32) (x6 : Int32)  (σ : Mem) (H : Heap) (locs : List Loc) (ls : Array Slot) (h : fX9_find_b435 rc328 rc340 o0 x2 x3 x4 x5 x6 σ = some (r, σ')) (hM : MS D cy ad A s.heap z σ H locs) (hl : lv_has ls 11 [(0, va_rf (Option.map ad (some o0))), (2, .int x2), (3, .int x3), (4, .int x4), (5, .int x5), (6, .int x6)]) : W p l e R s m args below meth c H locs 0 0 Q (F0 m 435 ls []) := by
  have hx := hC.1
  have hb := hC.2.1
  unfold fX9_find_b435 at h
  obtain ⟨t1, e_t1, h⟩ := bd_elim h
  refine lv_iinc (v := t1) (lv' := [(6, .int t1), (0, va_rf (Option.map ad (some o0))), (2, .int x2), (3, .int x3), (4, .int x4), (5, .int x5)]) hx hb dX9_find_435 hl (k := 5) rfl (by rw [e_t1]; rfl) (by decide) (by first | rfl | simp [va_cat]) (fun ls hl => ?_)
  refine lv_goto (tgt := 340) hx hb dX9_find_438 (by decide) ?_
  exact Kc340 _ _ _ _ _ _ _ _ _ _ h hM (lv_sub hl [1, 2, 3, 4, 5, 0] rfl)
def fX9_find_b431 (rc328 : Nat → Int32 → Int32 → Int32 → Int32 → Mem → Option (Int32 × Mem)) (rc340 : Nat → Int32 → Int32 → Int32 → Int32 → Int32 → Mem → Option (Int32 × Mem)) (o0 : Nat) (x2 : Int32) (x3 : Int32) (x5 : Int32) (x6 : Int32) (x7 : Int32)  (σ : Mem) : Option (Int32 × Mem) :=
  fX9_find_b435 rc328 rc340 o0 x2 x3 x7 x5 x6 σ
set_option maxRecDepth 20000 in
theorem wX9_find_b431 {r : Int32} {σ' : Mem} (hC : CallFix p m c cX9_find 11 s args WALL RX9) (hG : GS D cy A s) (hR : 4 ≤ R.frames ∧ 144 ≤ R.locals) (Kr : KrI p l e R s m args below meth c cX9_find Q D cy ad A z r σ') {rc328 : Nat → Int32 → Int32 → Int32 → Int32 → Mem → Option (Int32 × Mem)} (Kc328 : ∀ (o0 : Nat) (x2 : Int32) (x3 : Int32) (x4 : Int32) (x5 : Int32) (τ : Mem) (H : Heap) (locs : List Loc) (ls : Array Slot), rc328 o0 x2 x3 x4 x5 τ = some (r, σ') → MS D cy ad A s.heap z τ H locs → lv_has ls 11 [(0, va_rf (Option.map ad (some o0))), (2, .int x2), (3, .int x3), (4, .int x4), (5, .int x5)] → W p l e R s m args below meth c H locs 0 0 Q (F0 m 328 ls [])) {rc340 : Nat → Int32 → Int32 → Int32 → Int32 → Int32 → Mem → Option (Int32 × Mem)} (Kc340 : ∀ (o0 : Nat) (x2 : Int32) (x3 : Int32) (x4 : Int32) (x5 : Int32) (x6 : Int32) (τ : Mem) (H : Heap) (locs : List Loc) (ls : Array Slot), rc340 o0 x2 x3 x4 x5 x6 τ = some (r, σ') → MS D cy ad A s.heap z τ H locs → lv_has ls 11 [(0, va_rf (Option.map ad (some o0))), (2, .int x2), (3, .int x3), (4, .int x4), (5, .int x5), (6, .int x6)] → W p l e R s m args below meth c H locs 0 0 Q (F0 m 340 ls [])) (o0 : Nat) (x2 : Int32) (x3 : Int32) (x5 : Int32) (x6 : Int32) (x7 : Int32)  (σ : Mem) (H : Heap) (locs : List Loc) (ls : Array Slot) (h : fX9_find_b431 rc328 rc340 o0 x2 x3 x5 x6 x7 σ = some (r, σ')) (hM : MS D cy ad A s.heap z σ H locs) (hl : lv_has ls 11 [(0, va_rf (Option.map ad (some o0))), (2, .int x2), (3, .int x3), (5, .int x5), (6, .int x6), (7, .int x7)]) : W p l e R s m args below meth c H locs 0 0 Q (F0 m 431 ls []) := by
  have hx := hC.1
  have hb := hC.2.1
  unfold fX9_find_b431 at h
  refine lv_iload hx hb dX9_find_431 (lv_at hl 5 rfl) ?_
  refine lv_istore (lv' := [(4, .int x7), (0, va_rf (Option.map ad (some o0))), (2, .int x2), (3, .int x3), (5, .int x5), (6, .int x6), (7, .int x7)]) hx hb dX9_find_433 hl (by decide) (by first | rfl | simp [va_cat]) (fun ls hl => ?_)
  exact wX9_find_b435 hC hG hR Kr Kc328 Kc340 _ _ _ _ _ _ _ _ _ _ h hM (lv_sub hl [1, 2, 3, 0, 4, 5] rfl)
def fX9_find_b340 (rc328 : Nat → Int32 → Int32 → Int32 → Int32 → Mem → Option (Int32 × Mem)) : Nat → Nat → Int32 → Int32 → Int32 → Int32 → Int32 → Mem → Option (Int32 × Mem)
  | 0, _, _, _, _, _, _, _ => none
  | n + 1, o0, x2, x3, x4, x5, x6, σ =>
    (fR σ 9 13 (some o0)).bind fun t1 =>
      (aI σ 11 t1 x5).bind fun t2 =>
      if t2 < x6 then fX9_find_b441 rc328 o0 x2 x3 x4 x5 σ
      else b2 (fX9_state x5 x6 σ) fun t4 m5 =>
        (fR m5 9 29 (some o0)).bind fun t6 =>
        (aJ m5 12 t6 t4).bind fun t7 =>
        if 1000000000000000 ≤ t7 then fX9_find_b435 rc328 (fX9_find_b340 rc328 n) o0 x2 x3 x4 x5 x6 m5
        else if x4 = (-1) then fX9_find_b431 rc328 (fX9_find_b340 rc328 n) o0 x2 x3 x5 x6 t4 m5
          else (fR m5 9 29 (some o0)).bind fun t10 =>
            (aJ m5 12 t10 t4).bind fun t11 =>
            (fR m5 9 29 (some o0)).bind fun t12 =>
            (aJ m5 12 t12 x4).bind fun t13 =>
            if t11 < t13 then fX9_find_b431 rc328 (fX9_find_b340 rc328 n) o0 x2 x3 x5 x6 t4 m5
            else (fR m5 9 29 (some o0)).bind fun t15 =>
              (aJ m5 12 t15 t4).bind fun t16 =>
              (fR m5 9 29 (some o0)).bind fun t17 =>
              (aJ m5 12 t17 x4).bind fun t18 =>
              if t16 = t18 then (kT m5 9 (some o0)).bind fun k20 =>
                b2 (fX9_isAhead k20 t4 x4 (x3 - x2) m5) fun t21 m22 =>
                if t21 = 0 then fX9_find_b435 rc328 (fX9_find_b340 rc328 n) o0 x2 x3 x4 x5 x6 m22
                else fX9_find_b431 rc328 (fX9_find_b340 rc328 n) o0 x2 x3 x5 x6 t4 m22
              else fX9_find_b435 rc328 (fX9_find_b340 rc328 n) o0 x2 x3 x4 x5 x6 m5
set_option maxRecDepth 20000 in
theorem wX9_find_b340 {r : Int32} {σ' : Mem} (hC : CallFix p m c cX9_find 11 s args WALL RX9) (hG : GS D cy A s) (hR : 4 ≤ R.frames ∧ 144 ≤ R.locals) (Kr : KrI p l e R s m args below meth c cX9_find Q D cy ad A z r σ') {rc328 : Nat → Int32 → Int32 → Int32 → Int32 → Mem → Option (Int32 × Mem)} (Kc328 : ∀ (o0 : Nat) (x2 : Int32) (x3 : Int32) (x4 : Int32) (x5 : Int32) (τ : Mem) (H : Heap) (locs : List Loc) (ls : Array Slot), rc328 o0 x2 x3 x4 x5 τ = some (r, σ') → MS D cy ad A s.heap z τ H locs → lv_has ls 11 [(0, va_rf (Option.map ad (some o0))), (2, .int x2), (3, .int x3), (4, .int x4), (5, .int x5)] → W p l e R s m args below meth c H locs 0 0 Q (F0 m 328 ls [])) : ∀ (n : Nat) (o0 : Nat) (x2 : Int32) (x3 : Int32) (x4 : Int32) (x5 : Int32) (x6 : Int32)  (σ : Mem) (H : Heap) (locs : List Loc) (ls : Array Slot), fX9_find_b340 rc328 n o0 x2 x3 x4 x5 x6 σ = some (r, σ') → MS D cy ad A s.heap z σ H locs → lv_has ls 11 [(0, va_rf (Option.map ad (some o0))), (2, .int x2), (3, .int x3), (4, .int x4), (5, .int x5), (6, .int x6)] → W p l e R s m args below meth c H locs 0 0 Q (F0 m 340 ls []) := by
  have hx := hC.1
  have hb := hC.2.1
  intro n
  induction n with
  | zero =>
    intro o0 x2 x3 x4 x5 x6 σ H locs ls h
    cases h
  | succ n ih =>
    intro o0 x2 x3 x4 x5 x6 σ H locs ls h hM hl
    rw [fX9_find_b340] at h
    refine lv_iload hx hb dX9_find_340 (lv_at hl 5 rfl) ?_
    refine lr_aload_n hx hb dX9_find_342 rfl (lv_at hl 0 rfl) ?_
    obtain ⟨t1, e_t1, h⟩ := bn h
    refine gf_X9_20 hC hG hM e_t1 dX9_find_343 ?_
    refine lv_iload hx hb dX9_find_346 (lv_at hl 4 rfl) ?_
    obtain ⟨t2, e_t2, h⟩ := bn h
    refine g_iald hx hb hG hM e_t2 dX9_find_348 ?_
    refine lv_icmp_gt (tgt := 441) hx hb dX9_find_349 (by decide) (fun c3 => ?_) (fun c3 => ?_)
    · rw [if_pos c3] at h
      exact wX9_find_b441 hC hG hR Kr Kc328 _ _ _ _ _ _ _ _ _ h hM (lv_sub hl [0, 1, 2, 3, 4] rfl)
    · rw [if_neg c3] at h
      refine lv_iload hx hb dX9_find_352 (lv_at hl 4 rfl) ?_
      refine lv_iload hx hb dX9_find_354 (lv_at hl 5 rfl) ?_
      obtain ⟨t4, m5, e_m5, h⟩ := b2_elim h
      refine cs_X9_254 hC hG hM (cX9_state_ok e_m5) ⟨by omega, by omega⟩ hl.1 (by first | exact Nat.le_of_ble_eq_true rfl | simp [va_cat, vcI, vcL, vcR]) dX9_find_356 (fun H locs hM => ?_)
      refine lv_istore (lv' := [(7, .int t4), (0, va_rf (Option.map ad (some o0))), (2, .int x2), (3, .int x3), (4, .int x4), (5, .int x5), (6, .int x6)]) hx hb dX9_find_359 hl (by decide) (by first | rfl | simp [va_cat]) (fun ls hl => ?_)
      refine lr_aload_n hx hb dX9_find_361 rfl (lv_at hl 1 rfl) ?_
      obtain ⟨t6, e_t6, h⟩ := bn h
      refine gf_X9_54 hC hG hM e_t6 dX9_find_362 ?_
      refine lv_iload hx hb dX9_find_365 (lv_at hl 0 rfl) ?_
      obtain ⟨t7, e_t7, h⟩ := bn h
      refine g_lald hx hb hG hM e_t7 dX9_find_367 ?_
      refine lv_ldc2 (v := 1000000000000000) hx hb hC.2.2.2.1 (hC.2.2.2.2 _ wk_X9_258) dX9_find_368 ?_
      refine lc_ge (tgt := 435) hx hb dX9_find_371 dX9_find_372 (by decide) (fun c8 => ?_) (fun c8 => ?_)
      · rw [if_pos c8] at h
        exact wX9_find_b435 hC hG hR Kr Kc328 ih _ _ _ _ _ _ _ _ _ _ h hM (lv_sub hl [1, 2, 3, 4, 5, 6] rfl)
      · rw [if_neg c8] at h
        refine lv_iload hx hb dX9_find_375 (lv_at hl 4 rfl) ?_
        refine lv_iconst (v := (-1)) hx hb dX9_find_377 (by decide) ?_
        refine lv_icmp_eq (tgt := 431) hx hb dX9_find_378 (by decide) (fun c9 => ?_) (fun c9 => ?_)
        · rw [if_pos c9] at h
          exact wX9_find_b431 hC hG hR Kr Kc328 ih _ _ _ _ _ _ _ _ _ _ h hM (lv_sub hl [1, 2, 3, 5, 6, 0] rfl)
        · rw [if_neg c9] at h
          refine lr_aload_n hx hb dX9_find_381 rfl (lv_at hl 1 rfl) ?_
          obtain ⟨t10, e_t10, h⟩ := bn h
          refine gf_X9_54 hC hG hM e_t10 dX9_find_382 ?_
          refine lv_iload hx hb dX9_find_385 (lv_at hl 0 rfl) ?_
          obtain ⟨t11, e_t11, h⟩ := bn h
          refine g_lald hx hb hG hM e_t11 dX9_find_387 ?_
          refine lr_aload_n hx hb dX9_find_388 rfl (lv_at hl 1 rfl) ?_
          obtain ⟨t12, e_t12, h⟩ := bn h
          refine gf_X9_54 hC hG hM e_t12 dX9_find_389 ?_
          refine lv_iload hx hb dX9_find_392 (lv_at hl 4 rfl) ?_
          obtain ⟨t13, e_t13, h⟩ := bn h
          refine g_lald hx hb hG hM e_t13 dX9_find_394 ?_
          refine lc_lt (tgt := 431) hx hb dX9_find_395 dX9_find_396 (by decide) (fun c14 => ?_) (fun c14 => ?_)
          · rw [if_pos c14] at h
            exact wX9_find_b431 hC hG hR Kr Kc328 ih _ _ _ _ _ _ _ _ _ _ h hM (lv_sub hl [1, 2, 3, 5, 6, 0] rfl)
          · rw [if_neg c14] at h
            refine lr_aload_n hx hb dX9_find_399 rfl (lv_at hl 1 rfl) ?_
            obtain ⟨t15, e_t15, h⟩ := bn h
            refine gf_X9_54 hC hG hM e_t15 dX9_find_400 ?_
            refine lv_iload hx hb dX9_find_403 (lv_at hl 0 rfl) ?_
            obtain ⟨t16, e_t16, h⟩ := bn h
            refine g_lald hx hb hG hM e_t16 dX9_find_405 ?_
            refine lr_aload_n hx hb dX9_find_406 rfl (lv_at hl 1 rfl) ?_
            obtain ⟨t17, e_t17, h⟩ := bn h
            refine gf_X9_54 hC hG hM e_t17 dX9_find_407 ?_
            refine lv_iload hx hb dX9_find_410 (lv_at hl 4 rfl) ?_
            obtain ⟨t18, e_t18, h⟩ := bn h
            refine g_lald hx hb hG hM e_t18 dX9_find_412 ?_
            refine lc_ne (tgt := 435) hx hb dX9_find_413 dX9_find_414 (by decide) (fun c19 => ?_) (fun c19 => ?_)
            · rw [if_neg c19] at h
              exact wX9_find_b435 hC hG hR Kr Kc328 ih _ _ _ _ _ _ _ _ _ _ h hM (lv_sub hl [1, 2, 3, 4, 5, 6] rfl)
            · rw [if_pos c19] at h
              refine lr_aload_n hx hb dX9_find_417 rfl (lv_at hl 1 rfl) ?_
              refine lv_iload hx hb dX9_find_418 (lv_at hl 0 rfl) ?_
              refine lv_iload hx hb dX9_find_420 (lv_at hl 4 rfl) ?_
              refine lv_iload_n hx hb dX9_find_422 rfl (lv_at hl 3 rfl) ?_
              refine lv_iload_n hx hb dX9_find_423 rfl (lv_at hl 2 rfl) ?_
              refine lv_isub hx hb dX9_find_424 ?_
              obtain ⟨k20, e_k20, h⟩ := bn h
              obtain ⟨t21, m22, e_m22, h⟩ := b2_elim h
              refine cs_X9_270 e_k20 hC hG hM (cX9_isAhead_ok e_m22) ⟨by omega, by omega⟩ hl.1 (by first | exact Nat.le_of_ble_eq_true rfl | simp [va_cat, vcI, vcL, vcR]) dX9_find_425 (fun H locs hM => ?_)
              refine lv_if_eq (tgt := 435) hx hb dX9_find_428 (by decide) (fun c23 => ?_) (fun c23 => ?_)
              · rw [if_pos c23] at h
                exact wX9_find_b435 hC hG hR Kr Kc328 ih _ _ _ _ _ _ _ _ _ _ h hM (lv_sub hl [1, 2, 3, 4, 5, 6] rfl)
              · rw [if_neg c23] at h
                exact wX9_find_b431 hC hG hR Kr Kc328 ih _ _ _ _ _ _ _ _ _ _ h hM (lv_sub hl [1, 2, 3, 5, 6, 0] rfl)
def fX9_find_b328  : Nat → Nat → Int32 → Int32 → Int32 → Int32 → Mem → Option (Int32 × Mem)
  | 0, _, _, _, _, _, _ => none
  | n + 1, o0, x2, x3, x4, x5, σ =>
    (fI σ 9 22 (some o0)).bind fun t1 =>
      if t1 ≤ x5 then fX9_find_b447 x4 σ
      else fX9_find_b340 (fX9_find_b328 n) FU o0 x2 x3 x4 x5 1 σ
set_option maxRecDepth 20000 in
theorem wX9_find_b328 {r : Int32} {σ' : Mem} (hC : CallFix p m c cX9_find 11 s args WALL RX9) (hG : GS D cy A s) (hR : 4 ≤ R.frames ∧ 144 ≤ R.locals) (Kr : KrI p l e R s m args below meth c cX9_find Q D cy ad A z r σ')  : ∀ (n : Nat) (o0 : Nat) (x2 : Int32) (x3 : Int32) (x4 : Int32) (x5 : Int32)  (σ : Mem) (H : Heap) (locs : List Loc) (ls : Array Slot), fX9_find_b328 n o0 x2 x3 x4 x5 σ = some (r, σ') → MS D cy ad A s.heap z σ H locs → lv_has ls 11 [(0, va_rf (Option.map ad (some o0))), (2, .int x2), (3, .int x3), (4, .int x4), (5, .int x5)] → W p l e R s m args below meth c H locs 0 0 Q (F0 m 328 ls []) := by
  have hx := hC.1
  have hb := hC.2.1
  intro n
  induction n with
  | zero =>
    intro o0 x2 x3 x4 x5 σ H locs ls h
    cases h
  | succ n ih =>
    intro o0 x2 x3 x4 x5 σ H locs ls h hM hl
    rw [fX9_find_b328] at h
    refine lv_iload hx hb dX9_find_328 (lv_at hl 4 rfl) ?_
    refine lr_aload_n hx hb dX9_find_330 rfl (lv_at hl 0 rfl) ?_
    obtain ⟨t1, e_t1, h⟩ := bn h
    refine gf_X9_205 hC hG hM e_t1 dX9_find_331 ?_
    refine lv_icmp_ge (tgt := 447) hx hb dX9_find_334 (by decide) (fun c2 => ?_) (fun c2 => ?_)
    · rw [if_pos c2] at h
      exact wX9_find_b447 hC hG hR Kr _ _ _ _ _ h hM (lv_sub hl [3] rfl)
    · rw [if_neg c2] at h
      refine lv_iconst (v := 1) hx hb dX9_find_337 (by decide) ?_
      refine lv_istore (lv' := [(6, .int 1), (0, va_rf (Option.map ad (some o0))), (2, .int x2), (3, .int x3), (4, .int x4), (5, .int x5)]) hx hb dX9_find_338 hl (by decide) (by first | rfl | simp [va_cat]) (fun ls hl => ?_)
      exact wX9_find_b340 hC hG hR Kr ih FU _ _ _ _ _ _ _ _ _ _ h hM (lv_sub hl [1, 2, 3, 4, 5, 0] rfl)
def fX9_find_b322  (o0 : Nat) (x2 : Int32) (x3 : Int32)  (σ : Mem) : Option (Int32 × Mem) :=
  fX9_find_b328 FU o0 x2 x3 (-1) 0 σ
set_option maxRecDepth 20000 in
theorem wX9_find_b322 {r : Int32} {σ' : Mem} (hC : CallFix p m c cX9_find 11 s args WALL RX9) (hG : GS D cy A s) (hR : 4 ≤ R.frames ∧ 144 ≤ R.locals) (Kr : KrI p l e R s m args below meth c cX9_find Q D cy ad A z r σ')  (o0 : Nat) (x2 : Int32) (x3 : Int32)  (σ : Mem) (H : Heap) (locs : List Loc) (ls : Array Slot) (h : fX9_find_b322 o0 x2 x3 σ = some (r, σ')) (hM : MS D cy ad A s.heap z σ H locs) (hl : lv_has ls 11 [(0, va_rf (Option.map ad (some o0))), (2, .int x2), (3, .int x3)]) : W p l e R s m args below meth c H locs 0 0 Q (F0 m 322 ls []) := by
  have hx := hC.1
  have hb := hC.2.1
  unfold fX9_find_b322 at h
  refine lv_iconst (v := (-1)) hx hb dX9_find_322 (by decide) ?_
  refine lv_istore (lv' := [(4, .int (-1)), (0, va_rf (Option.map ad (some o0))), (2, .int x2), (3, .int x3)]) hx hb dX9_find_323 hl (by decide) (by first | rfl | simp [va_cat]) (fun ls hl => ?_)
  refine lv_iconst (v := 0) hx hb dX9_find_325 (by decide) ?_
  refine lv_istore (lv' := [(5, .int 0), (4, .int (-1)), (0, va_rf (Option.map ad (some o0))), (2, .int x2), (3, .int x3)]) hx hb dX9_find_326 hl (by decide) (by first | rfl | simp [va_cat]) (fun ls hl => ?_)
  exact wX9_find_b328 hC hG hR Kr FU _ _ _ _ _ _ _ _ _ h hM (lv_sub hl [2, 3, 4, 1, 0] rfl)
def fX9_find_b312 (rc92 : Nat → Int32 → Int32 → Int32 → Int32 → Mem → Option (Int32 × Mem)) (o0 : Nat) (x1 : Int32) (x2 : Int32) (x3 : Int32) (x4 : Int32)  (σ : Mem) : Option (Int32 × Mem) :=
  (kT σ 9 (some o0)).bind fun k1 =>
    (fX9_turn k1 σ).bind fun m2 =>
    bd (x4 + 1) fun t3 =>
    rc92 o0 x1 x2 x3 t3 m2
set_option maxRecDepth 20000 in
theorem wX9_find_b312 {r : Int32} {σ' : Mem} (hC : CallFix p m c cX9_find 11 s args WALL RX9) (hG : GS D cy A s) (hR : 4 ≤ R.frames ∧ 144 ≤ R.locals) (Kr : KrI p l e R s m args below meth c cX9_find Q D cy ad A z r σ') {rc92 : Nat → Int32 → Int32 → Int32 → Int32 → Mem → Option (Int32 × Mem)} (Kc92 : ∀ (o0 : Nat) (x1 : Int32) (x2 : Int32) (x3 : Int32) (x4 : Int32) (τ : Mem) (H : Heap) (locs : List Loc) (ls : Array Slot), rc92 o0 x1 x2 x3 x4 τ = some (r, σ') → MS D cy ad A s.heap z τ H locs → lv_has ls 11 [(0, va_rf (Option.map ad (some o0))), (1, .int x1), (2, .int x2), (3, .int x3), (4, .int x4)] → W p l e R s m args below meth c H locs 0 0 Q (F0 m 92 ls [])) (o0 : Nat) (x1 : Int32) (x2 : Int32) (x3 : Int32) (x4 : Int32)  (σ : Mem) (H : Heap) (locs : List Loc) (ls : Array Slot) (h : fX9_find_b312 rc92 o0 x1 x2 x3 x4 σ = some (r, σ')) (hM : MS D cy ad A s.heap z σ H locs) (hl : lv_has ls 11 [(0, va_rf (Option.map ad (some o0))), (1, .int x1), (2, .int x2), (3, .int x3), (4, .int x4)]) : W p l e R s m args below meth c H locs 0 0 Q (F0 m 312 ls []) := by
  have hx := hC.1
  have hb := hC.2.1
  unfold fX9_find_b312 at h
  refine lr_aload_n hx hb dX9_find_312 rfl (lv_at hl 0 rfl) ?_
  obtain ⟨k1, e_k1, h⟩ := bn h
  obtain ⟨m2, e_m2, h⟩ := bn h
  refine cs_X9_267 e_k1 hC hG hM (cX9_turn_ok e_m2) ⟨by omega, by omega⟩ hl.1 (by first | exact Nat.le_of_ble_eq_true rfl | simp [va_cat, vcI, vcL, vcR]) dX9_find_313 (fun H locs hM => ?_)
  obtain ⟨t3, e_t3, h⟩ := bd_elim h
  refine lv_iinc (v := t3) (lv' := [(4, .int t3), (0, va_rf (Option.map ad (some o0))), (1, .int x1), (2, .int x2), (3, .int x3)]) hx hb dX9_find_316 hl (k := 4) rfl (by rw [e_t3]; rfl) (by decide) (by first | rfl | simp [va_cat]) (fun ls hl => ?_)
  refine lv_goto (tgt := 92) hx hb dX9_find_319 (by decide) ?_
  exact Kc92 _ _ _ _ _ _ _ _ _ h hM (lv_sub hl [1, 2, 3, 4, 0] rfl)
def fX9_find_b306 (rc92 : Nat → Int32 → Int32 → Int32 → Int32 → Mem → Option (Int32 × Mem)) (rc101 : Nat → Int32 → Int32 → Int32 → Int32 → Int32 → Mem → Option (Int32 × Mem)) (o0 : Nat) (x1 : Int32) (x2 : Int32) (x3 : Int32) (x4 : Int32) (x5 : Int32)  (σ : Mem) : Option (Int32 × Mem) :=
  bd (x5 + 1) fun t1 =>
    rc101 o0 x1 x2 x3 x4 t1 σ
set_option maxRecDepth 20000 in
theorem wX9_find_b306 {r : Int32} {σ' : Mem} (hC : CallFix p m c cX9_find 11 s args WALL RX9) (hG : GS D cy A s) (hR : 4 ≤ R.frames ∧ 144 ≤ R.locals) (Kr : KrI p l e R s m args below meth c cX9_find Q D cy ad A z r σ') {rc92 : Nat → Int32 → Int32 → Int32 → Int32 → Mem → Option (Int32 × Mem)} (Kc92 : ∀ (o0 : Nat) (x1 : Int32) (x2 : Int32) (x3 : Int32) (x4 : Int32) (τ : Mem) (H : Heap) (locs : List Loc) (ls : Array Slot), rc92 o0 x1 x2 x3 x4 τ = some (r, σ') → MS D cy ad A s.heap z τ H locs → lv_has ls 11 [(0, va_rf (Option.map ad (some o0))), (1, .int x1), (2, .int x2), (3, .int x3), (4, .int x4)] → W p l e R s m args below meth c H locs 0 0 Q (F0 m 92 ls [])) {rc101 : Nat → Int32 → Int32 → Int32 → Int32 → Int32 → Mem → Option (Int32 × Mem)} (Kc101 : ∀ (o0 : Nat) (x1 : Int32) (x2 : Int32) (x3 : Int32) (x4 : Int32) (x5 : Int32) (τ : Mem) (H : Heap) (locs : List Loc) (ls : Array Slot), rc101 o0 x1 x2 x3 x4 x5 τ = some (r, σ') → MS D cy ad A s.heap z τ H locs → lv_has ls 11 [(0, va_rf (Option.map ad (some o0))), (1, .int x1), (2, .int x2), (3, .int x3), (4, .int x4), (5, .int x5)] → W p l e R s m args below meth c H locs 0 0 Q (F0 m 101 ls [])) (o0 : Nat) (x1 : Int32) (x2 : Int32) (x3 : Int32) (x4 : Int32) (x5 : Int32)  (σ : Mem) (H : Heap) (locs : List Loc) (ls : Array Slot) (h : fX9_find_b306 rc92 rc101 o0 x1 x2 x3 x4 x5 σ = some (r, σ')) (hM : MS D cy ad A s.heap z σ H locs) (hl : lv_has ls 11 [(0, va_rf (Option.map ad (some o0))), (1, .int x1), (2, .int x2), (3, .int x3), (4, .int x4), (5, .int x5)]) : W p l e R s m args below meth c H locs 0 0 Q (F0 m 306 ls []) := by
  have hx := hC.1
  have hb := hC.2.1
  unfold fX9_find_b306 at h
  obtain ⟨t1, e_t1, h⟩ := bd_elim h
  refine lv_iinc (v := t1) (lv' := [(5, .int t1), (0, va_rf (Option.map ad (some o0))), (1, .int x1), (2, .int x2), (3, .int x3), (4, .int x4)]) hx hb dX9_find_306 hl (k := 5) rfl (by rw [e_t1]; rfl) (by decide) (by first | rfl | simp [va_cat]) (fun ls hl => ?_)
  refine lv_goto (tgt := 101) hx hb dX9_find_309 (by decide) ?_
  exact Kc101 _ _ _ _ _ _ _ _ _ _ h hM (lv_sub hl [1, 2, 3, 4, 5, 0] rfl)
def fX9_find_b300 (rc92 : Nat → Int32 → Int32 → Int32 → Int32 → Mem → Option (Int32 × Mem)) (rc101 : Nat → Int32 → Int32 → Int32 → Int32 → Int32 → Mem → Option (Int32 × Mem)) (rc139 : Nat → Int32 → Int32 → Int32 → Int32 → Int32 → Int64 → Int32 → Mem → Option (Int32 × Mem)) (o0 : Nat) (x1 : Int32) (x2 : Int32) (x3 : Int32) (x4 : Int32) (x5 : Int32) (x6 : Int64) (x8 : Int32)  (σ : Mem) : Option (Int32 × Mem) :=
  bd (x8 + 1) fun t1 =>
    rc139 o0 x1 x2 x3 x4 x5 x6 t1 σ
set_option maxRecDepth 20000 in
theorem wX9_find_b300 {r : Int32} {σ' : Mem} (hC : CallFix p m c cX9_find 11 s args WALL RX9) (hG : GS D cy A s) (hR : 4 ≤ R.frames ∧ 144 ≤ R.locals) (Kr : KrI p l e R s m args below meth c cX9_find Q D cy ad A z r σ') {rc92 : Nat → Int32 → Int32 → Int32 → Int32 → Mem → Option (Int32 × Mem)} (Kc92 : ∀ (o0 : Nat) (x1 : Int32) (x2 : Int32) (x3 : Int32) (x4 : Int32) (τ : Mem) (H : Heap) (locs : List Loc) (ls : Array Slot), rc92 o0 x1 x2 x3 x4 τ = some (r, σ') → MS D cy ad A s.heap z τ H locs → lv_has ls 11 [(0, va_rf (Option.map ad (some o0))), (1, .int x1), (2, .int x2), (3, .int x3), (4, .int x4)] → W p l e R s m args below meth c H locs 0 0 Q (F0 m 92 ls [])) {rc101 : Nat → Int32 → Int32 → Int32 → Int32 → Int32 → Mem → Option (Int32 × Mem)} (Kc101 : ∀ (o0 : Nat) (x1 : Int32) (x2 : Int32) (x3 : Int32) (x4 : Int32) (x5 : Int32) (τ : Mem) (H : Heap) (locs : List Loc) (ls : Array Slot), rc101 o0 x1 x2 x3 x4 x5 τ = some (r, σ') → MS D cy ad A s.heap z τ H locs → lv_has ls 11 [(0, va_rf (Option.map ad (some o0))), (1, .int x1), (2, .int x2), (3, .int x3), (4, .int x4), (5, .int x5)] → W p l e R s m args below meth c H locs 0 0 Q (F0 m 101 ls [])) {rc139 : Nat → Int32 → Int32 → Int32 → Int32 → Int32 → Int64 → Int32 → Mem → Option (Int32 × Mem)} (Kc139 : ∀ (o0 : Nat) (x1 : Int32) (x2 : Int32) (x3 : Int32) (x4 : Int32) (x5 : Int32) (x6 : Int64) (x8 : Int32) (τ : Mem) (H : Heap) (locs : List Loc) (ls : Array Slot), rc139 o0 x1 x2 x3 x4 x5 x6 x8 τ = some (r, σ') → MS D cy ad A s.heap z τ H locs → lv_has ls 11 [(0, va_rf (Option.map ad (some o0))), (1, .int x1), (2, .int x2), (3, .int x3), (4, .int x4), (5, .int x5), (6, .long x6), (8, .int x8)] → W p l e R s m args below meth c H locs 0 0 Q (F0 m 139 ls [])) (o0 : Nat) (x1 : Int32) (x2 : Int32) (x3 : Int32) (x4 : Int32) (x5 : Int32) (x6 : Int64) (x8 : Int32)  (σ : Mem) (H : Heap) (locs : List Loc) (ls : Array Slot) (h : fX9_find_b300 rc92 rc101 rc139 o0 x1 x2 x3 x4 x5 x6 x8 σ = some (r, σ')) (hM : MS D cy ad A s.heap z σ H locs) (hl : lv_has ls 11 [(0, va_rf (Option.map ad (some o0))), (1, .int x1), (2, .int x2), (3, .int x3), (4, .int x4), (5, .int x5), (6, .long x6), (8, .int x8)]) : W p l e R s m args below meth c H locs 0 0 Q (F0 m 300 ls []) := by
  have hx := hC.1
  have hb := hC.2.1
  unfold fX9_find_b300 at h
  obtain ⟨t1, e_t1, h⟩ := bd_elim h
  refine lv_iinc (v := t1) (lv' := [(8, .int t1), (0, va_rf (Option.map ad (some o0))), (1, .int x1), (2, .int x2), (3, .int x3), (4, .int x4), (5, .int x5), (6, .long x6)]) hx hb dX9_find_300 hl (k := 7) rfl (by rw [e_t1]; rfl) (by decide) (by first | rfl | simp [va_cat]) (fun ls hl => ?_)
  refine lv_goto (tgt := 139) hx hb dX9_find_303 (by decide) ?_
  exact Kc139 _ _ _ _ _ _ _ _ _ _ _ _ h hM (lv_sub hl [1, 2, 3, 4, 5, 6, 7, 0] rfl)
def fX9_find_b294 (rc92 : Nat → Int32 → Int32 → Int32 → Int32 → Mem → Option (Int32 × Mem)) (rc101 : Nat → Int32 → Int32 → Int32 → Int32 → Int32 → Mem → Option (Int32 × Mem)) (rc139 : Nat → Int32 → Int32 → Int32 → Int32 → Int32 → Int64 → Int32 → Mem → Option (Int32 × Mem)) (rc151 : Nat → Int32 → Int32 → Int32 → Int32 → Int32 → Int64 → Int32 → Int32 → Mem → Option (Int32 × Mem)) (o0 : Nat) (x1 : Int32) (x2 : Int32) (x3 : Int32) (x4 : Int32) (x5 : Int32) (x6 : Int64) (x8 : Int32) (x9 : Int32)  (σ : Mem) : Option (Int32 × Mem) :=
  bd (x9 + 1) fun t1 =>
    rc151 o0 x1 x2 x3 x4 x5 x6 x8 t1 σ
set_option maxRecDepth 20000 in
theorem wX9_find_b294 {r : Int32} {σ' : Mem} (hC : CallFix p m c cX9_find 11 s args WALL RX9) (hG : GS D cy A s) (hR : 4 ≤ R.frames ∧ 144 ≤ R.locals) (Kr : KrI p l e R s m args below meth c cX9_find Q D cy ad A z r σ') {rc92 : Nat → Int32 → Int32 → Int32 → Int32 → Mem → Option (Int32 × Mem)} (Kc92 : ∀ (o0 : Nat) (x1 : Int32) (x2 : Int32) (x3 : Int32) (x4 : Int32) (τ : Mem) (H : Heap) (locs : List Loc) (ls : Array Slot), rc92 o0 x1 x2 x3 x4 τ = some (r, σ') → MS D cy ad A s.heap z τ H locs → lv_has ls 11 [(0, va_rf (Option.map ad (some o0))), (1, .int x1), (2, .int x2), (3, .int x3), (4, .int x4)] → W p l e R s m args below meth c H locs 0 0 Q (F0 m 92 ls [])) {rc101 : Nat → Int32 → Int32 → Int32 → Int32 → Int32 → Mem → Option (Int32 × Mem)} (Kc101 : ∀ (o0 : Nat) (x1 : Int32) (x2 : Int32) (x3 : Int32) (x4 : Int32) (x5 : Int32) (τ : Mem) (H : Heap) (locs : List Loc) (ls : Array Slot), rc101 o0 x1 x2 x3 x4 x5 τ = some (r, σ') → MS D cy ad A s.heap z τ H locs → lv_has ls 11 [(0, va_rf (Option.map ad (some o0))), (1, .int x1), (2, .int x2), (3, .int x3), (4, .int x4), (5, .int x5)] → W p l e R s m args below meth c H locs 0 0 Q (F0 m 101 ls [])) {rc139 : Nat → Int32 → Int32 → Int32 → Int32 → Int32 → Int64 → Int32 → Mem → Option (Int32 × Mem)} (Kc139 : ∀ (o0 : Nat) (x1 : Int32) (x2 : Int32) (x3 : Int32) (x4 : Int32) (x5 : Int32) (x6 : Int64) (x8 : Int32) (τ : Mem) (H : Heap) (locs : List Loc) (ls : Array Slot), rc139 o0 x1 x2 x3 x4 x5 x6 x8 τ = some (r, σ') → MS D cy ad A s.heap z τ H locs → lv_has ls 11 [(0, va_rf (Option.map ad (some o0))), (1, .int x1), (2, .int x2), (3, .int x3), (4, .int x4), (5, .int x5), (6, .long x6), (8, .int x8)] → W p l e R s m args below meth c H locs 0 0 Q (F0 m 139 ls [])) {rc151 : Nat → Int32 → Int32 → Int32 → Int32 → Int32 → Int64 → Int32 → Int32 → Mem → Option (Int32 × Mem)} (Kc151 : ∀ (o0 : Nat) (x1 : Int32) (x2 : Int32) (x3 : Int32) (x4 : Int32) (x5 : Int32) (x6 : Int64) (x8 : Int32) (x9 : Int32) (τ : Mem) (H : Heap) (locs : List Loc) (ls : Array Slot), rc151 o0 x1 x2 x3 x4 x5 x6 x8 x9 τ = some (r, σ') → MS D cy ad A s.heap z τ H locs → lv_has ls 11 [(0, va_rf (Option.map ad (some o0))), (1, .int x1), (2, .int x2), (3, .int x3), (4, .int x4), (5, .int x5), (6, .long x6), (8, .int x8), (9, .int x9)] → W p l e R s m args below meth c H locs 0 0 Q (F0 m 151 ls [])) (o0 : Nat) (x1 : Int32) (x2 : Int32) (x3 : Int32) (x4 : Int32) (x5 : Int32) (x6 : Int64) (x8 : Int32) (x9 : Int32)  (σ : Mem) (H : Heap) (locs : List Loc) (ls : Array Slot) (h : fX9_find_b294 rc92 rc101 rc139 rc151 o0 x1 x2 x3 x4 x5 x6 x8 x9 σ = some (r, σ')) (hM : MS D cy ad A s.heap z σ H locs) (hl : lv_has ls 11 [(0, va_rf (Option.map ad (some o0))), (1, .int x1), (2, .int x2), (3, .int x3), (4, .int x4), (5, .int x5), (6, .long x6), (8, .int x8), (9, .int x9)]) : W p l e R s m args below meth c H locs 0 0 Q (F0 m 294 ls []) := by
  have hx := hC.1
  have hb := hC.2.1
  unfold fX9_find_b294 at h
  obtain ⟨t1, e_t1, h⟩ := bd_elim h
  refine lv_iinc (v := t1) (lv' := [(9, .int t1), (0, va_rf (Option.map ad (some o0))), (1, .int x1), (2, .int x2), (3, .int x3), (4, .int x4), (5, .int x5), (6, .long x6), (8, .int x8)]) hx hb dX9_find_294 hl (k := 8) rfl (by rw [e_t1]; rfl) (by decide) (by first | rfl | simp [va_cat]) (fun ls hl => ?_)
  refine lv_goto (tgt := 151) hx hb dX9_find_297 (by decide) ?_
  exact Kc151 _ _ _ _ _ _ _ _ _ _ _ _ _ h hM (lv_sub hl [1, 2, 3, 4, 5, 6, 7, 8, 0] rfl)
def fX9_find_b222 (rc92 : Nat → Int32 → Int32 → Int32 → Int32 → Mem → Option (Int32 × Mem)) (rc101 : Nat → Int32 → Int32 → Int32 → Int32 → Int32 → Mem → Option (Int32 × Mem)) (rc139 : Nat → Int32 → Int32 → Int32 → Int32 → Int32 → Int64 → Int32 → Mem → Option (Int32 × Mem)) (rc151 : Nat → Int32 → Int32 → Int32 → Int32 → Int32 → Int64 → Int32 → Int32 → Mem → Option (Int32 × Mem)) (o0 : Nat) (x1 : Int32) (x2 : Int32) (x3 : Int32) (x4 : Int32) (x5 : Int32) (x6 : Int64) (x8 : Int32) (x9 : Int32) (x10 : Int32) (y0 : Int32) (y1 : Int32) (y2 : Int32) (y3 : Option Nat) (σ : Mem) : Option (Int32 × Mem) :=
  (fR σ 9 29 (some o0)).bind fun t1 =>
    (aJ σ 12 t1 x10).bind fun t2 =>
    (kT σ 9 y3).bind fun k3 =>
    (fX9_offer k3 y2 y1 y0 (x4 - x2) (t2 + x6) σ).bind fun m4 =>
    fX9_find_b294 rc92 rc101 rc139 rc151 o0 x1 x2 x3 x4 x5 x6 x8 x9 m4
set_option maxRecDepth 20000 in
theorem wX9_find_b222 {r : Int32} {σ' : Mem} (hC : CallFix p m c cX9_find 11 s args WALL RX9) (hG : GS D cy A s) (hR : 4 ≤ R.frames ∧ 144 ≤ R.locals) (Kr : KrI p l e R s m args below meth c cX9_find Q D cy ad A z r σ') {rc92 : Nat → Int32 → Int32 → Int32 → Int32 → Mem → Option (Int32 × Mem)} (Kc92 : ∀ (o0 : Nat) (x1 : Int32) (x2 : Int32) (x3 : Int32) (x4 : Int32) (τ : Mem) (H : Heap) (locs : List Loc) (ls : Array Slot), rc92 o0 x1 x2 x3 x4 τ = some (r, σ') → MS D cy ad A s.heap z τ H locs → lv_has ls 11 [(0, va_rf (Option.map ad (some o0))), (1, .int x1), (2, .int x2), (3, .int x3), (4, .int x4)] → W p l e R s m args below meth c H locs 0 0 Q (F0 m 92 ls [])) {rc101 : Nat → Int32 → Int32 → Int32 → Int32 → Int32 → Mem → Option (Int32 × Mem)} (Kc101 : ∀ (o0 : Nat) (x1 : Int32) (x2 : Int32) (x3 : Int32) (x4 : Int32) (x5 : Int32) (τ : Mem) (H : Heap) (locs : List Loc) (ls : Array Slot), rc101 o0 x1 x2 x3 x4 x5 τ = some (r, σ') → MS D cy ad A s.heap z τ H locs → lv_has ls 11 [(0, va_rf (Option.map ad (some o0))), (1, .int x1), (2, .int x2), (3, .int x3), (4, .int x4), (5, .int x5)] → W p l e R s m args below meth c H locs 0 0 Q (F0 m 101 ls [])) {rc139 : Nat → Int32 → Int32 → Int32 → Int32 → Int32 → Int64 → Int32 → Mem → Option (Int32 × Mem)} (Kc139 : ∀ (o0 : Nat) (x1 : Int32) (x2 : Int32) (x3 : Int32) (x4 : Int32) (x5 : Int32) (x6 : Int64) (x8 : Int32) (τ : Mem) (H : Heap) (locs : List Loc) (ls : Array Slot), rc139 o0 x1 x2 x3 x4 x5 x6 x8 τ = some (r, σ') → MS D cy ad A s.heap z τ H locs → lv_has ls 11 [(0, va_rf (Option.map ad (some o0))), (1, .int x1), (2, .int x2), (3, .int x3), (4, .int x4), (5, .int x5), (6, .long x6), (8, .int x8)] → W p l e R s m args below meth c H locs 0 0 Q (F0 m 139 ls [])) {rc151 : Nat → Int32 → Int32 → Int32 → Int32 → Int32 → Int64 → Int32 → Int32 → Mem → Option (Int32 × Mem)} (Kc151 : ∀ (o0 : Nat) (x1 : Int32) (x2 : Int32) (x3 : Int32) (x4 : Int32) (x5 : Int32) (x6 : Int64) (x8 : Int32) (x9 : Int32) (τ : Mem) (H : Heap) (locs : List Loc) (ls : Array Slot), rc151 o0 x1 x2 x3 x4 x5 x6 x8 x9 τ = some (r, σ') → MS D cy ad A s.heap z τ H locs → lv_has ls 11 [(0, va_rf (Option.map ad (some o0))), (1, .int x1), (2, .int x2), (3, .int x3), (4, .int x4), (5, .int x5), (6, .long x6), (8, .int x8), (9, .int x9)] → W p l e R s m args below meth c H locs 0 0 Q (F0 m 151 ls [])) (o0 : Nat) (x1 : Int32) (x2 : Int32) (x3 : Int32) (x4 : Int32) (x5 : Int32) (x6 : Int64) (x8 : Int32) (x9 : Int32) (x10 : Int32) (y0 : Int32) (y1 : Int32) (y2 : Int32) (y3 : Option Nat) (σ : Mem) (H : Heap) (locs : List Loc) (ls : Array Slot) (h : fX9_find_b222 rc92 rc101 rc139 rc151 o0 x1 x2 x3 x4 x5 x6 x8 x9 x10 y0 y1 y2 y3 σ = some (r, σ')) (hM : MS D cy ad A s.heap z σ H locs) (hl : lv_has ls 11 [(0, va_rf (Option.map ad (some o0))), (1, .int x1), (2, .int x2), (3, .int x3), (4, .int x4), (5, .int x5), (6, .long x6), (8, .int x8), (9, .int x9), (10, .int x10)]) : W p l e R s m args below meth c H locs 0 0 Q (F0 m 222 ls [.int y0, .int y1, .int y2, va_rf (Option.map ad y3)]) := by
  have hx := hC.1
  have hb := hC.2.1
  unfold fX9_find_b222 at h
  refine lv_iload hx hb dX9_find_222 (lv_at hl 4 rfl) ?_
  refine lv_iload_n hx hb dX9_find_224 rfl (lv_at hl 2 rfl) ?_
  refine lv_isub hx hb dX9_find_225 ?_
  refine lr_aload_n hx hb dX9_find_226 rfl (lv_at hl 0 rfl) ?_
  obtain ⟨t1, e_t1, h⟩ := bn h
  refine gf_X9_54 hC hG hM e_t1 dX9_find_227 ?_
  refine lv_iload hx hb dX9_find_230 (lv_at hl 9 rfl) ?_
  obtain ⟨t2, e_t2, h⟩ := bn h
  refine g_lald hx hb hG hM e_t2 dX9_find_232 ?_
  refine lv_lload hx hb dX9_find_233 (lv_at hl 6 rfl) ?_
  refine lv_ladd hx hb dX9_find_235 ?_
  obtain ⟨k3, e_k3, h⟩ := bn h
  obtain ⟨m4, e_m4, h⟩ := bn h
  refine cs_X9_263 e_k3 hC hG hM (cX9_offer_ok e_m4) ⟨by omega, by omega⟩ hl.1 (by first | exact Nat.le_of_ble_eq_true rfl | simp [va_cat, vcI, vcL, vcR]) dX9_find_236 (fun H locs hM => ?_)
  refine lv_goto (tgt := 294) hx hb dX9_find_239 (by decide) ?_
  exact wX9_find_b294 hC hG hR Kr Kc92 Kc101 Kc139 Kc151 _ _ _ _ _ _ _ _ _ _ _ _ _ h hM (lv_sub hl [0, 1, 2, 3, 4, 5, 6, 7, 8] rfl)
def fX9_find_b151 (rc92 : Nat → Int32 → Int32 → Int32 → Int32 → Mem → Option (Int32 × Mem)) (rc101 : Nat → Int32 → Int32 → Int32 → Int32 → Int32 → Mem → Option (Int32 × Mem)) (rc139 : Nat → Int32 → Int32 → Int32 → Int32 → Int32 → Int64 → Int32 → Mem → Option (Int32 × Mem)) : Nat → Nat → Int32 → Int32 → Int32 → Int32 → Int32 → Int64 → Int32 → Int32 → Mem → Option (Int32 × Mem)
  | 0, _, _, _, _, _, _, _, _, _, _ => none
  | n + 1, o0, x1, x2, x3, x4, x5, x6, x8, x9, σ =>
    (fR σ 9 13 (some o0)).bind fun t1 =>
      (aI σ 11 t1 x8).bind fun t2 =>
      if t2 < x9 then fX9_find_b300 rc92 rc101 rc139 o0 x1 x2 x3 x4 x5 x6 x8 σ
      else b2 (fX9_state x8 x9 σ) fun t4 m5 =>
        (fR m5 9 29 (some o0)).bind fun t6 =>
        (aJ m5 12 t6 t4).bind fun t7 =>
        if t7 = 1000000000000000 then fX9_find_b294 rc92 rc101 rc139 (fX9_find_b151 rc92 rc101 rc139 n) o0 x1 x2 x3 x4 x5 x6 x8 x9 m5
        else if x8 = x5 then (fR m5 9 13 (some o0)).bind fun t22 =>
            (aI m5 11 t22 x5).bind fun t23 =>
            if t23 ≤ x9 then fX9_find_b222 rc92 rc101 rc139 (fX9_find_b151 rc92 rc101 rc139 n) o0 x1 x2 x3 x4 x5 x6 x8 x9 t4 x9 x5 t4 (some o0) m5
            else fX9_find_b222 rc92 rc101 rc139 (fX9_find_b151 rc92 rc101 rc139 n) o0 x1 x2 x3 x4 x5 x6 x8 x9 t4 (x9 + 1) x5 t4 (some o0) m5
          else (fR m5 9 13 (some o0)).bind fun t10 =>
            (aI m5 11 t10 x8).bind fun t11 =>
            if x9 = t11 then (kT m5 9 (some o0)).bind fun k13 =>
              b2 (fX9_mayBegin k13 x5 x4 m5) fun t14 m15 =>
              if t14 = 0 then fX9_find_b294 rc92 rc101 rc139 (fX9_find_b151 rc92 rc101 rc139 n) o0 x1 x2 x3 x4 x5 x6 x8 x9 m15
              else (fR m15 9 29 (some o0)).bind fun t17 =>
                (aJ m15 12 t17 t4).bind fun t18 =>
                (fI m15 9 28 (some o0)).bind fun t19 =>
                (kT m15 9 (some o0)).bind fun k20 =>
                (fX9_offer k20 t4 x5 1 (x4 - x2) ((t18 + x6) + ((t19 : Int32).toInt64)) m15).bind fun m21 =>
                fX9_find_b294 rc92 rc101 rc139 (fX9_find_b151 rc92 rc101 rc139 n) o0 x1 x2 x3 x4 x5 x6 x8 x9 m21
            else fX9_find_b294 rc92 rc101 rc139 (fX9_find_b151 rc92 rc101 rc139 n) o0 x1 x2 x3 x4 x5 x6 x8 x9 m5
set_option maxRecDepth 20000 in
theorem wX9_find_b151 {r : Int32} {σ' : Mem} (hC : CallFix p m c cX9_find 11 s args WALL RX9) (hG : GS D cy A s) (hR : 4 ≤ R.frames ∧ 144 ≤ R.locals) (Kr : KrI p l e R s m args below meth c cX9_find Q D cy ad A z r σ') {rc92 : Nat → Int32 → Int32 → Int32 → Int32 → Mem → Option (Int32 × Mem)} (Kc92 : ∀ (o0 : Nat) (x1 : Int32) (x2 : Int32) (x3 : Int32) (x4 : Int32) (τ : Mem) (H : Heap) (locs : List Loc) (ls : Array Slot), rc92 o0 x1 x2 x3 x4 τ = some (r, σ') → MS D cy ad A s.heap z τ H locs → lv_has ls 11 [(0, va_rf (Option.map ad (some o0))), (1, .int x1), (2, .int x2), (3, .int x3), (4, .int x4)] → W p l e R s m args below meth c H locs 0 0 Q (F0 m 92 ls [])) {rc101 : Nat → Int32 → Int32 → Int32 → Int32 → Int32 → Mem → Option (Int32 × Mem)} (Kc101 : ∀ (o0 : Nat) (x1 : Int32) (x2 : Int32) (x3 : Int32) (x4 : Int32) (x5 : Int32) (τ : Mem) (H : Heap) (locs : List Loc) (ls : Array Slot), rc101 o0 x1 x2 x3 x4 x5 τ = some (r, σ') → MS D cy ad A s.heap z τ H locs → lv_has ls 11 [(0, va_rf (Option.map ad (some o0))), (1, .int x1), (2, .int x2), (3, .int x3), (4, .int x4), (5, .int x5)] → W p l e R s m args below meth c H locs 0 0 Q (F0 m 101 ls [])) {rc139 : Nat → Int32 → Int32 → Int32 → Int32 → Int32 → Int64 → Int32 → Mem → Option (Int32 × Mem)} (Kc139 : ∀ (o0 : Nat) (x1 : Int32) (x2 : Int32) (x3 : Int32) (x4 : Int32) (x5 : Int32) (x6 : Int64) (x8 : Int32) (τ : Mem) (H : Heap) (locs : List Loc) (ls : Array Slot), rc139 o0 x1 x2 x3 x4 x5 x6 x8 τ = some (r, σ') → MS D cy ad A s.heap z τ H locs → lv_has ls 11 [(0, va_rf (Option.map ad (some o0))), (1, .int x1), (2, .int x2), (3, .int x3), (4, .int x4), (5, .int x5), (6, .long x6), (8, .int x8)] → W p l e R s m args below meth c H locs 0 0 Q (F0 m 139 ls [])) : ∀ (n : Nat) (o0 : Nat) (x1 : Int32) (x2 : Int32) (x3 : Int32) (x4 : Int32) (x5 : Int32) (x6 : Int64) (x8 : Int32) (x9 : Int32)  (σ : Mem) (H : Heap) (locs : List Loc) (ls : Array Slot), fX9_find_b151 rc92 rc101 rc139 n o0 x1 x2 x3 x4 x5 x6 x8 x9 σ = some (r, σ') → MS D cy ad A s.heap z σ H locs → lv_has ls 11 [(0, va_rf (Option.map ad (some o0))), (1, .int x1), (2, .int x2), (3, .int x3), (4, .int x4), (5, .int x5), (6, .long x6), (8, .int x8), (9, .int x9)] → W p l e R s m args below meth c H locs 0 0 Q (F0 m 151 ls []) := by
  have hx := hC.1
  have hb := hC.2.1
  intro n
  induction n with
  | zero =>
    intro o0 x1 x2 x3 x4 x5 x6 x8 x9 σ H locs ls h
    cases h
  | succ n ih =>
    intro o0 x1 x2 x3 x4 x5 x6 x8 x9 σ H locs ls h hM hl
    rw [fX9_find_b151] at h
    refine lv_iload hx hb dX9_find_151 (lv_at hl 8 rfl) ?_
    refine lr_aload_n hx hb dX9_find_153 rfl (lv_at hl 0 rfl) ?_
    obtain ⟨t1, e_t1, h⟩ := bn h
    refine gf_X9_20 hC hG hM e_t1 dX9_find_154 ?_
    refine lv_iload hx hb dX9_find_157 (lv_at hl 7 rfl) ?_
    obtain ⟨t2, e_t2, h⟩ := bn h
    refine g_iald hx hb hG hM e_t2 dX9_find_159 ?_
    refine lv_icmp_gt (tgt := 300) hx hb dX9_find_160 (by decide) (fun c3 => ?_) (fun c3 => ?_)
    · rw [if_pos c3] at h
      exact wX9_find_b300 hC hG hR Kr Kc92 Kc101 Kc139 _ _ _ _ _ _ _ _ _ _ _ _ h hM (lv_sub hl [0, 1, 2, 3, 4, 5, 6, 7] rfl)
    · rw [if_neg c3] at h
      refine lv_iload hx hb dX9_find_163 (lv_at hl 7 rfl) ?_
      refine lv_iload hx hb dX9_find_165 (lv_at hl 8 rfl) ?_
      obtain ⟨t4, m5, e_m5, h⟩ := b2_elim h
      refine cs_X9_254 hC hG hM (cX9_state_ok e_m5) ⟨by omega, by omega⟩ hl.1 (by first | exact Nat.le_of_ble_eq_true rfl | simp [va_cat, vcI, vcL, vcR]) dX9_find_167 (fun H locs hM => ?_)
      refine lv_istore (lv' := [(10, .int t4), (0, va_rf (Option.map ad (some o0))), (1, .int x1), (2, .int x2), (3, .int x3), (4, .int x4), (5, .int x5), (6, .long x6), (8, .int x8), (9, .int x9)]) hx hb dX9_find_170 hl (by decide) (by first | rfl | simp [va_cat]) (fun ls hl => ?_)
      refine lr_aload_n hx hb dX9_find_172 rfl (lv_at hl 1 rfl) ?_
      obtain ⟨t6, e_t6, h⟩ := bn h
      refine gf_X9_54 hC hG hM e_t6 dX9_find_173 ?_
      refine lv_iload hx hb dX9_find_176 (lv_at hl 0 rfl) ?_
      obtain ⟨t7, e_t7, h⟩ := bn h
      refine g_lald hx hb hG hM e_t7 dX9_find_178 ?_
      refine lv_ldc2 (v := 1000000000000000) hx hb hC.2.2.2.1 (hC.2.2.2.2 _ wk_X9_258) dX9_find_179 ?_
      refine lc_ne (tgt := 189) hx hb dX9_find_182 dX9_find_183 (by decide) (fun c8 => ?_) (fun c8 => ?_)
      · rw [if_neg c8] at h
        refine lv_iload hx hb dX9_find_189 (lv_at hl 8 rfl) ?_
        refine lv_iload hx hb dX9_find_191 (lv_at hl 6 rfl) ?_
        refine lv_icmp_ne (tgt := 242) hx hb dX9_find_193 (by decide) (fun c9 => ?_) (fun c9 => ?_)
        · rw [if_neg c9] at h
          refine lv_iload hx hb dX9_find_242 (lv_at hl 9 rfl) ?_
          refine lr_aload_n hx hb dX9_find_244 rfl (lv_at hl 1 rfl) ?_
          obtain ⟨t10, e_t10, h⟩ := bn h
          refine gf_X9_20 hC hG hM e_t10 dX9_find_245 ?_
          refine lv_iload hx hb dX9_find_248 (lv_at hl 8 rfl) ?_
          obtain ⟨t11, e_t11, h⟩ := bn h
          refine g_iald hx hb hG hM e_t11 dX9_find_250 ?_
          refine lv_icmp_ne (tgt := 294) hx hb dX9_find_251 (by decide) (fun c12 => ?_) (fun c12 => ?_)
          · rw [if_neg c12] at h
            exact wX9_find_b294 hC hG hR Kr Kc92 Kc101 Kc139 ih _ _ _ _ _ _ _ _ _ _ _ _ _ h hM (lv_sub hl [1, 2, 3, 4, 5, 6, 7, 8, 9] rfl)
          · rw [if_pos c12] at h
            refine lr_aload_n hx hb dX9_find_254 rfl (lv_at hl 1 rfl) ?_
            refine lv_iload hx hb dX9_find_255 (lv_at hl 6 rfl) ?_
            refine lv_iload hx hb dX9_find_257 (lv_at hl 5 rfl) ?_
            obtain ⟨k13, e_k13, h⟩ := bn h
            obtain ⟨t14, m15, e_m15, h⟩ := b2_elim h
            refine cs_X9_260 e_k13 hC hG hM (cX9_mayBegin_ok e_m15) ⟨by omega, by omega⟩ hl.1 (by first | exact Nat.le_of_ble_eq_true rfl | simp [va_cat, vcI, vcL, vcR]) dX9_find_259 (fun H locs hM => ?_)
            refine lv_if_eq (tgt := 294) hx hb dX9_find_262 (by decide) (fun c16 => ?_) (fun c16 => ?_)
            · rw [if_pos c16] at h
              exact wX9_find_b294 hC hG hR Kr Kc92 Kc101 Kc139 ih _ _ _ _ _ _ _ _ _ _ _ _ _ h hM (lv_sub hl [1, 2, 3, 4, 5, 6, 7, 8, 9] rfl)
            · rw [if_neg c16] at h
              refine lr_aload_n hx hb dX9_find_265 rfl (lv_at hl 1 rfl) ?_
              refine lv_iload hx hb dX9_find_266 (lv_at hl 0 rfl) ?_
              refine lv_iload hx hb dX9_find_268 (lv_at hl 6 rfl) ?_
              refine lv_iconst (v := 1) hx hb dX9_find_270 (by decide) ?_
              refine lv_iload hx hb dX9_find_271 (lv_at hl 5 rfl) ?_
              refine lv_iload_n hx hb dX9_find_273 rfl (lv_at hl 3 rfl) ?_
              refine lv_isub hx hb dX9_find_274 ?_
              refine lr_aload_n hx hb dX9_find_275 rfl (lv_at hl 1 rfl) ?_
              obtain ⟨t17, e_t17, h⟩ := bn h
              refine gf_X9_54 hC hG hM e_t17 dX9_find_276 ?_
              refine lv_iload hx hb dX9_find_279 (lv_at hl 0 rfl) ?_
              obtain ⟨t18, e_t18, h⟩ := bn h
              refine g_lald hx hb hG hM e_t18 dX9_find_281 ?_
              refine lv_lload hx hb dX9_find_282 (lv_at hl 7 rfl) ?_
              refine lv_ladd hx hb dX9_find_284 ?_
              refine lr_aload_n hx hb dX9_find_285 rfl (lv_at hl 1 rfl) ?_
              obtain ⟨t19, e_t19, h⟩ := bn h
              refine gf_X9_232 hC hG hM e_t19 dX9_find_286 ?_
              refine lv_i2l hx hb dX9_find_289 rfl ?_
              refine lv_ladd hx hb dX9_find_290 ?_
              obtain ⟨k20, e_k20, h⟩ := bn h
              obtain ⟨m21, e_m21, h⟩ := bn h
              refine cs_X9_263 e_k20 hC hG hM (cX9_offer_ok e_m21) ⟨by omega, by omega⟩ hl.1 (by first | exact Nat.le_of_ble_eq_true rfl | simp [va_cat, vcI, vcL, vcR]) dX9_find_291 (fun H locs hM => ?_)
              exact wX9_find_b294 hC hG hR Kr Kc92 Kc101 Kc139 ih _ _ _ _ _ _ _ _ _ _ _ _ _ h hM (lv_sub hl [1, 2, 3, 4, 5, 6, 7, 8, 9] rfl)
        · rw [if_pos c9] at h
          refine lr_aload_n hx hb dX9_find_196 rfl (lv_at hl 1 rfl) ?_
          refine lv_iload hx hb dX9_find_197 (lv_at hl 0 rfl) ?_
          refine lv_iload hx hb dX9_find_199 (lv_at hl 6 rfl) ?_
          refine lv_iload hx hb dX9_find_201 (lv_at hl 9 rfl) ?_
          refine lr_aload_n hx hb dX9_find_203 rfl (lv_at hl 1 rfl) ?_
          obtain ⟨t22, e_t22, h⟩ := bn h
          refine gf_X9_20 hC hG hM e_t22 dX9_find_204 ?_
          refine lv_iload hx hb dX9_find_207 (lv_at hl 6 rfl) ?_
          obtain ⟨t23, e_t23, h⟩ := bn h
          refine g_iald hx hb hG hM e_t23 dX9_find_209 ?_
          refine lv_icmp_ge (tgt := 220) hx hb dX9_find_210 (by decide) (fun c24 => ?_) (fun c24 => ?_)
          · rw [if_pos c24] at h
            refine lv_iload hx hb dX9_find_220 (lv_at hl 9 rfl) ?_
            exact wX9_find_b222 hC hG hR Kr Kc92 Kc101 Kc139 ih _ _ _ _ _ _ _ _ _ _ _ _ _ _ _ _ _ _ h hM (lv_sub hl [1, 2, 3, 4, 5, 6, 7, 8, 9, 0] rfl)
          · rw [if_neg c24] at h
            refine lv_iload hx hb dX9_find_213 (lv_at hl 9 rfl) ?_
            refine lv_iconst (v := 1) hx hb dX9_find_215 (by decide) ?_
            refine lv_iadd hx hb dX9_find_216 ?_
            refine lv_goto (tgt := 222) hx hb dX9_find_217 (by decide) ?_
            exact wX9_find_b222 hC hG hR Kr Kc92 Kc101 Kc139 ih _ _ _ _ _ _ _ _ _ _ _ _ _ _ _ _ _ _ h hM (lv_sub hl [1, 2, 3, 4, 5, 6, 7, 8, 9, 0] rfl)
      · rw [if_pos c8] at h
        refine lv_goto (tgt := 294) hx hb dX9_find_186 (by decide) ?_
        exact wX9_find_b294 hC hG hR Kr Kc92 Kc101 Kc139 ih _ _ _ _ _ _ _ _ _ _ _ _ _ h hM (lv_sub hl [1, 2, 3, 4, 5, 6, 7, 8, 9] rfl)
def fX9_find_b139 (rc92 : Nat → Int32 → Int32 → Int32 → Int32 → Mem → Option (Int32 × Mem)) (rc101 : Nat → Int32 → Int32 → Int32 → Int32 → Int32 → Mem → Option (Int32 × Mem)) : Nat → Nat → Int32 → Int32 → Int32 → Int32 → Int32 → Int64 → Int32 → Mem → Option (Int32 × Mem)
  | 0, _, _, _, _, _, _, _, _, _ => none
  | n + 1, o0, x1, x2, x3, x4, x5, x6, x8, σ =>
    (fI σ 9 22 (some o0)).bind fun t1 =>
      if t1 ≤ x8 then fX9_find_b306 rc92 rc101 o0 x1 x2 x3 x4 x5 σ
      else fX9_find_b151 rc92 rc101 (fX9_find_b139 rc92 rc101 n) FU o0 x1 x2 x3 x4 x5 x6 x8 1 σ
set_option maxRecDepth 20000 in
theorem wX9_find_b139 {r : Int32} {σ' : Mem} (hC : CallFix p m c cX9_find 11 s args WALL RX9) (hG : GS D cy A s) (hR : 4 ≤ R.frames ∧ 144 ≤ R.locals) (Kr : KrI p l e R s m args below meth c cX9_find Q D cy ad A z r σ') {rc92 : Nat → Int32 → Int32 → Int32 → Int32 → Mem → Option (Int32 × Mem)} (Kc92 : ∀ (o0 : Nat) (x1 : Int32) (x2 : Int32) (x3 : Int32) (x4 : Int32) (τ : Mem) (H : Heap) (locs : List Loc) (ls : Array Slot), rc92 o0 x1 x2 x3 x4 τ = some (r, σ') → MS D cy ad A s.heap z τ H locs → lv_has ls 11 [(0, va_rf (Option.map ad (some o0))), (1, .int x1), (2, .int x2), (3, .int x3), (4, .int x4)] → W p l e R s m args below meth c H locs 0 0 Q (F0 m 92 ls [])) {rc101 : Nat → Int32 → Int32 → Int32 → Int32 → Int32 → Mem → Option (Int32 × Mem)} (Kc101 : ∀ (o0 : Nat) (x1 : Int32) (x2 : Int32) (x3 : Int32) (x4 : Int32) (x5 : Int32) (τ : Mem) (H : Heap) (locs : List Loc) (ls : Array Slot), rc101 o0 x1 x2 x3 x4 x5 τ = some (r, σ') → MS D cy ad A s.heap z τ H locs → lv_has ls 11 [(0, va_rf (Option.map ad (some o0))), (1, .int x1), (2, .int x2), (3, .int x3), (4, .int x4), (5, .int x5)] → W p l e R s m args below meth c H locs 0 0 Q (F0 m 101 ls [])) : ∀ (n : Nat) (o0 : Nat) (x1 : Int32) (x2 : Int32) (x3 : Int32) (x4 : Int32) (x5 : Int32) (x6 : Int64) (x8 : Int32)  (σ : Mem) (H : Heap) (locs : List Loc) (ls : Array Slot), fX9_find_b139 rc92 rc101 n o0 x1 x2 x3 x4 x5 x6 x8 σ = some (r, σ') → MS D cy ad A s.heap z σ H locs → lv_has ls 11 [(0, va_rf (Option.map ad (some o0))), (1, .int x1), (2, .int x2), (3, .int x3), (4, .int x4), (5, .int x5), (6, .long x6), (8, .int x8)] → W p l e R s m args below meth c H locs 0 0 Q (F0 m 139 ls []) := by
  have hx := hC.1
  have hb := hC.2.1
  intro n
  induction n with
  | zero =>
    intro o0 x1 x2 x3 x4 x5 x6 x8 σ H locs ls h
    cases h
  | succ n ih =>
    intro o0 x1 x2 x3 x4 x5 x6 x8 σ H locs ls h hM hl
    rw [fX9_find_b139] at h
    refine lv_iload hx hb dX9_find_139 (lv_at hl 7 rfl) ?_
    refine lr_aload_n hx hb dX9_find_141 rfl (lv_at hl 0 rfl) ?_
    obtain ⟨t1, e_t1, h⟩ := bn h
    refine gf_X9_205 hC hG hM e_t1 dX9_find_142 ?_
    refine lv_icmp_ge (tgt := 306) hx hb dX9_find_145 (by decide) (fun c2 => ?_) (fun c2 => ?_)
    · rw [if_pos c2] at h
      exact wX9_find_b306 hC hG hR Kr Kc92 Kc101 _ _ _ _ _ _ _ _ _ _ h hM (lv_sub hl [0, 1, 2, 3, 4, 5] rfl)
    · rw [if_neg c2] at h
      refine lv_iconst (v := 1) hx hb dX9_find_148 (by decide) ?_
      refine lv_istore (lv' := [(9, .int 1), (0, va_rf (Option.map ad (some o0))), (1, .int x1), (2, .int x2), (3, .int x3), (4, .int x4), (5, .int x5), (6, .long x6), (8, .int x8)]) hx hb dX9_find_149 hl (by decide) (by first | rfl | simp [va_cat]) (fun ls hl => ?_)
      exact wX9_find_b151 hC hG hR Kr Kc92 Kc101 ih FU _ _ _ _ _ _ _ _ _ _ _ _ _ h hM (lv_sub hl [1, 2, 3, 4, 5, 6, 7, 8, 0] rfl)
def fX9_find_b101 (rc92 : Nat → Int32 → Int32 → Int32 → Int32 → Mem → Option (Int32 × Mem)) : Nat → Nat → Int32 → Int32 → Int32 → Int32 → Int32 → Mem → Option (Int32 × Mem)
  | 0, _, _, _, _, _, _, _ => none
  | n + 1, o0, x1, x2, x3, x4, x5, σ =>
    (fI σ 9 22 (some o0)).bind fun t1 =>
      if t1 ≤ x5 then fX9_find_b312 rc92 o0 x1 x2 x3 x4 σ
      else (kT σ 9 (some o0)).bind fun k3 =>
        b2 (fX9_mayHave k3 x5 x1 x4 σ) fun t4 m5 =>
        if t4 = 0 then fX9_find_b306 rc92 (fX9_find_b101 rc92 n) o0 x1 x2 x3 x4 x5 m5
        else (kT m5 9 (some o0)).bind fun k7 =>
          b2 (fX9_monthCost k7 x5 x1 x4 m5) fun t8 m9 =>
          fX9_find_b139 rc92 (fX9_find_b101 rc92 n) FU o0 x1 x2 x3 x4 x5 t8 0 m9
set_option maxRecDepth 20000 in
theorem wX9_find_b101 {r : Int32} {σ' : Mem} (hC : CallFix p m c cX9_find 11 s args WALL RX9) (hG : GS D cy A s) (hR : 4 ≤ R.frames ∧ 144 ≤ R.locals) (Kr : KrI p l e R s m args below meth c cX9_find Q D cy ad A z r σ') {rc92 : Nat → Int32 → Int32 → Int32 → Int32 → Mem → Option (Int32 × Mem)} (Kc92 : ∀ (o0 : Nat) (x1 : Int32) (x2 : Int32) (x3 : Int32) (x4 : Int32) (τ : Mem) (H : Heap) (locs : List Loc) (ls : Array Slot), rc92 o0 x1 x2 x3 x4 τ = some (r, σ') → MS D cy ad A s.heap z τ H locs → lv_has ls 11 [(0, va_rf (Option.map ad (some o0))), (1, .int x1), (2, .int x2), (3, .int x3), (4, .int x4)] → W p l e R s m args below meth c H locs 0 0 Q (F0 m 92 ls [])) : ∀ (n : Nat) (o0 : Nat) (x1 : Int32) (x2 : Int32) (x3 : Int32) (x4 : Int32) (x5 : Int32)  (σ : Mem) (H : Heap) (locs : List Loc) (ls : Array Slot), fX9_find_b101 rc92 n o0 x1 x2 x3 x4 x5 σ = some (r, σ') → MS D cy ad A s.heap z σ H locs → lv_has ls 11 [(0, va_rf (Option.map ad (some o0))), (1, .int x1), (2, .int x2), (3, .int x3), (4, .int x4), (5, .int x5)] → W p l e R s m args below meth c H locs 0 0 Q (F0 m 101 ls []) := by
  have hx := hC.1
  have hb := hC.2.1
  intro n
  induction n with
  | zero =>
    intro o0 x1 x2 x3 x4 x5 σ H locs ls h
    cases h
  | succ n ih =>
    intro o0 x1 x2 x3 x4 x5 σ H locs ls h hM hl
    rw [fX9_find_b101] at h
    refine lv_iload hx hb dX9_find_101 (lv_at hl 5 rfl) ?_
    refine lr_aload_n hx hb dX9_find_103 rfl (lv_at hl 0 rfl) ?_
    obtain ⟨t1, e_t1, h⟩ := bn h
    refine gf_X9_205 hC hG hM e_t1 dX9_find_104 ?_
    refine lv_icmp_ge (tgt := 312) hx hb dX9_find_107 (by decide) (fun c2 => ?_) (fun c2 => ?_)
    · rw [if_pos c2] at h
      exact wX9_find_b312 hC hG hR Kr Kc92 _ _ _ _ _ _ _ _ _ h hM (lv_sub hl [0, 1, 2, 3, 4] rfl)
    · rw [if_neg c2] at h
      refine lr_aload_n hx hb dX9_find_110 rfl (lv_at hl 0 rfl) ?_
      refine lv_iload hx hb dX9_find_111 (lv_at hl 5 rfl) ?_
      refine lv_iload_n hx hb dX9_find_113 rfl (lv_at hl 1 rfl) ?_
      refine lv_iload hx hb dX9_find_114 (lv_at hl 4 rfl) ?_
      obtain ⟨k3, e_k3, h⟩ := bn h
      obtain ⟨t4, m5, e_m5, h⟩ := b2_elim h
      refine cs_X9_246 e_k3 hC hG hM (cX9_mayHave_ok e_m5) ⟨by omega, by omega⟩ hl.1 (by first | exact Nat.le_of_ble_eq_true rfl | simp [va_cat, vcI, vcL, vcR]) dX9_find_116 (fun H locs hM => ?_)
      refine lv_if_ne (tgt := 125) hx hb dX9_find_119 (by decide) (fun c6 => ?_) (fun c6 => ?_)
      · rw [if_neg c6] at h
        refine lr_aload_n hx hb dX9_find_125 rfl (lv_at hl 0 rfl) ?_
        refine lv_iload hx hb dX9_find_126 (lv_at hl 5 rfl) ?_
        refine lv_iload_n hx hb dX9_find_128 rfl (lv_at hl 1 rfl) ?_
        refine lv_iload hx hb dX9_find_129 (lv_at hl 4 rfl) ?_
        obtain ⟨k7, e_k7, h⟩ := bn h
        obtain ⟨t8, m9, e_m9, h⟩ := b2_elim h
        refine cs_X9_250 e_k7 hC hG hM (cX9_monthCost_ok e_m9) ⟨by omega, by omega⟩ hl.1 (by first | exact Nat.le_of_ble_eq_true rfl | simp [va_cat, vcI, vcL, vcR]) dX9_find_131 (fun H locs hM => ?_)
        refine lv_lstore (lv' := [(6, .long t8), (0, va_rf (Option.map ad (some o0))), (1, .int x1), (2, .int x2), (3, .int x3), (4, .int x4), (5, .int x5)]) hx hb dX9_find_134 hl (by decide) (by first | rfl | simp [va_cat]) (fun ls hl => ?_)
        refine lv_iconst (v := 0) hx hb dX9_find_136 (by decide) ?_
        refine lv_istore (lv' := [(8, .int 0), (6, .long t8), (0, va_rf (Option.map ad (some o0))), (1, .int x1), (2, .int x2), (3, .int x3), (4, .int x4), (5, .int x5)]) hx hb dX9_find_137 hl (by decide) (by first | rfl | simp [va_cat]) (fun ls hl => ?_)
        exact wX9_find_b139 hC hG hR Kr Kc92 ih FU _ _ _ _ _ _ _ _ _ _ _ _ h hM (lv_sub hl [2, 3, 4, 5, 6, 7, 1, 0] rfl)
      · rw [if_pos c6] at h
        refine lv_goto (tgt := 306) hx hb dX9_find_122 (by decide) ?_
        exact wX9_find_b306 hC hG hR Kr Kc92 ih _ _ _ _ _ _ _ _ _ _ h hM (lv_sub hl [0, 1, 2, 3, 4, 5] rfl)
def fX9_find_b92  : Nat → Nat → Int32 → Int32 → Int32 → Int32 → Mem → Option (Int32 × Mem)
  | 0, _, _, _, _, _, _ => none
  | n + 1, o0, x1, x2, x3, x4, σ =>
    if x3 ≤ x4 then fX9_find_b322 o0 x2 x3 σ
      else fX9_find_b101 (fX9_find_b92 n) FU o0 x1 x2 x3 x4 0 σ
set_option maxRecDepth 20000 in
theorem wX9_find_b92 {r : Int32} {σ' : Mem} (hC : CallFix p m c cX9_find 11 s args WALL RX9) (hG : GS D cy A s) (hR : 4 ≤ R.frames ∧ 144 ≤ R.locals) (Kr : KrI p l e R s m args below meth c cX9_find Q D cy ad A z r σ')  : ∀ (n : Nat) (o0 : Nat) (x1 : Int32) (x2 : Int32) (x3 : Int32) (x4 : Int32)  (σ : Mem) (H : Heap) (locs : List Loc) (ls : Array Slot), fX9_find_b92 n o0 x1 x2 x3 x4 σ = some (r, σ') → MS D cy ad A s.heap z σ H locs → lv_has ls 11 [(0, va_rf (Option.map ad (some o0))), (1, .int x1), (2, .int x2), (3, .int x3), (4, .int x4)] → W p l e R s m args below meth c H locs 0 0 Q (F0 m 92 ls []) := by
  have hx := hC.1
  have hb := hC.2.1
  intro n
  induction n with
  | zero =>
    intro o0 x1 x2 x3 x4 σ H locs ls h
    cases h
  | succ n ih =>
    intro o0 x1 x2 x3 x4 σ H locs ls h hM hl
    rw [fX9_find_b92] at h
    refine lv_iload hx hb dX9_find_92 (lv_at hl 4 rfl) ?_
    refine lv_iload_n hx hb dX9_find_94 rfl (lv_at hl 3 rfl) ?_
    refine lv_icmp_ge (tgt := 322) hx hb dX9_find_95 (by decide) (fun c1 => ?_) (fun c1 => ?_)
    · rw [if_pos c1] at h
      exact wX9_find_b322 hC hG hR Kr _ _ _ _ _ _ _ h hM (lv_sub hl [0, 2, 3] rfl)
    · rw [if_neg c1] at h
      refine lv_iconst (v := 0) hx hb dX9_find_98 (by decide) ?_
      refine lv_istore (lv' := [(5, .int 0), (0, va_rf (Option.map ad (some o0))), (1, .int x1), (2, .int x2), (3, .int x3), (4, .int x4)]) hx hb dX9_find_99 hl (by decide) (by first | rfl | simp [va_cat]) (fun ls hl => ?_)
      exact wX9_find_b101 hC hG hR Kr ih FU _ _ _ _ _ _ _ _ _ _ h hM (lv_sub hl [1, 2, 3, 4, 5, 0] rfl)
def fX9_find_b83  (o0 : Nat) (x1 : Int32) (x2 : Int32) (x3 : Int32)  (σ : Mem) : Option (Int32 × Mem) :=
  (kT σ 9 (some o0)).bind fun k1 =>
    (fX9_turn k1 σ).bind fun m2 =>
    bd (x2 + 1) fun t3 =>
    fX9_find_b92 FU o0 x1 x2 x3 t3 m2
set_option maxRecDepth 20000 in
theorem wX9_find_b83 {r : Int32} {σ' : Mem} (hC : CallFix p m c cX9_find 11 s args WALL RX9) (hG : GS D cy A s) (hR : 4 ≤ R.frames ∧ 144 ≤ R.locals) (Kr : KrI p l e R s m args below meth c cX9_find Q D cy ad A z r σ')  (o0 : Nat) (x1 : Int32) (x2 : Int32) (x3 : Int32)  (σ : Mem) (H : Heap) (locs : List Loc) (ls : Array Slot) (h : fX9_find_b83 o0 x1 x2 x3 σ = some (r, σ')) (hM : MS D cy ad A s.heap z σ H locs) (hl : lv_has ls 11 [(0, va_rf (Option.map ad (some o0))), (1, .int x1), (2, .int x2), (3, .int x3)]) : W p l e R s m args below meth c H locs 0 0 Q (F0 m 83 ls []) := by
  have hx := hC.1
  have hb := hC.2.1
  unfold fX9_find_b83 at h
  refine lr_aload_n hx hb dX9_find_83 rfl (lv_at hl 0 rfl) ?_
  obtain ⟨k1, e_k1, h⟩ := bn h
  obtain ⟨m2, e_m2, h⟩ := bn h
  refine cs_X9_267 e_k1 hC hG hM (cX9_turn_ok e_m2) ⟨by omega, by omega⟩ hl.1 (by first | exact Nat.le_of_ble_eq_true rfl | simp [va_cat, vcI, vcL, vcR]) dX9_find_84 (fun H locs hM => ?_)
  refine lv_iload_n hx hb dX9_find_87 rfl (lv_at hl 2 rfl) ?_
  refine lv_iconst (v := 1) hx hb dX9_find_88 (by decide) ?_
  refine lv_iadd hx hb dX9_find_89 ?_
  obtain ⟨t3, e_t3, h⟩ := bd_elim h
  refine lr_nmi e_t3 ?_
  refine lv_istore (lv' := [(4, .int t3), (0, va_rf (Option.map ad (some o0))), (1, .int x1), (2, .int x2), (3, .int x3)]) hx hb dX9_find_90 hl (by decide) (by first | rfl | simp [va_cat]) (fun ls hl => ?_)
  exact wX9_find_b92 hC hG hR Kr FU _ _ _ _ _ _ _ _ _ h hM (lv_sub hl [1, 2, 3, 4, 0] rfl)
def fX9_find_b77 (rc30 : Nat → Int32 → Int32 → Int32 → Int32 → Mem → Option (Int32 × Mem)) (o0 : Nat) (x1 : Int32) (x2 : Int32) (x3 : Int32) (x4 : Int32)  (σ : Mem) : Option (Int32 × Mem) :=
  bd (x4 + 1) fun t1 =>
    rc30 o0 x1 x2 x3 t1 σ
set_option maxRecDepth 20000 in
theorem wX9_find_b77 {r : Int32} {σ' : Mem} (hC : CallFix p m c cX9_find 11 s args WALL RX9) (hG : GS D cy A s) (hR : 4 ≤ R.frames ∧ 144 ≤ R.locals) (Kr : KrI p l e R s m args below meth c cX9_find Q D cy ad A z r σ') {rc30 : Nat → Int32 → Int32 → Int32 → Int32 → Mem → Option (Int32 × Mem)} (Kc30 : ∀ (o0 : Nat) (x1 : Int32) (x2 : Int32) (x3 : Int32) (x4 : Int32) (τ : Mem) (H : Heap) (locs : List Loc) (ls : Array Slot), rc30 o0 x1 x2 x3 x4 τ = some (r, σ') → MS D cy ad A s.heap z τ H locs → lv_has ls 11 [(0, va_rf (Option.map ad (some o0))), (1, .int x1), (2, .int x2), (3, .int x3), (4, .int x4)] → W p l e R s m args below meth c H locs 0 0 Q (F0 m 30 ls [])) (o0 : Nat) (x1 : Int32) (x2 : Int32) (x3 : Int32) (x4 : Int32)  (σ : Mem) (H : Heap) (locs : List Loc) (ls : Array Slot) (h : fX9_find_b77 rc30 o0 x1 x2 x3 x4 σ = some (r, σ')) (hM : MS D cy ad A s.heap z σ H locs) (hl : lv_has ls 11 [(0, va_rf (Option.map ad (some o0))), (1, .int x1), (2, .int x2), (3, .int x3), (4, .int x4)]) : W p l e R s m args below meth c H locs 0 0 Q (F0 m 77 ls []) := by
  have hx := hC.1
  have hb := hC.2.1
  unfold fX9_find_b77 at h
  obtain ⟨t1, e_t1, h⟩ := bd_elim h
  refine lv_iinc (v := t1) (lv' := [(4, .int t1), (0, va_rf (Option.map ad (some o0))), (1, .int x1), (2, .int x2), (3, .int x3)]) hx hb dX9_find_77 hl (k := 4) rfl (by rw [e_t1]; rfl) (by decide) (by first | rfl | simp [va_cat]) (fun ls hl => ?_)
  refine lv_goto (tgt := 30) hx hb dX9_find_80 (by decide) ?_
  exact Kc30 _ _ _ _ _ _ _ _ _ h hM (lv_sub hl [1, 2, 3, 4, 0] rfl)
def fX9_find_b30  : Nat → Nat → Int32 → Int32 → Int32 → Int32 → Mem → Option (Int32 × Mem)
  | 0, _, _, _, _, _, _ => none
  | n + 1, o0, x1, x2, x3, x4, σ =>
    (fI σ 9 22 (some o0)).bind fun t1 =>
      if t1 ≤ x4 then fX9_find_b83 o0 x1 x2 x3 σ
      else (kT σ 9 (some o0)).bind fun k3 =>
        b2 (fX9_mayBegin k3 x4 x2 σ) fun t4 m5 =>
        if t4 = 0 then fX9_find_b77 (fX9_find_b30 n) o0 x1 x2 x3 x4 m5
        else (kT m5 9 (some o0)).bind fun k7 =>
          b2 (fX9_mayHave k7 x4 x1 x2 m5) fun t8 m9 =>
          if t8 = 0 then fX9_find_b77 (fX9_find_b30 n) o0 x1 x2 x3 x4 m9
          else (kT m9 9 (some o0)).bind fun k11 =>
            b2 (fX9_monthCost k11 x4 x1 x2 m9) fun t12 m13 =>
            (kT m13 9 (some o0)).bind fun k14 =>
            (fX9_offer k14 0 x4 1 0 t12 m13).bind fun m15 =>
            fX9_find_b77 (fX9_find_b30 n) o0 x1 x2 x3 x4 m15
set_option maxRecDepth 20000 in
theorem wX9_find_b30 {r : Int32} {σ' : Mem} (hC : CallFix p m c cX9_find 11 s args WALL RX9) (hG : GS D cy A s) (hR : 4 ≤ R.frames ∧ 144 ≤ R.locals) (Kr : KrI p l e R s m args below meth c cX9_find Q D cy ad A z r σ')  : ∀ (n : Nat) (o0 : Nat) (x1 : Int32) (x2 : Int32) (x3 : Int32) (x4 : Int32)  (σ : Mem) (H : Heap) (locs : List Loc) (ls : Array Slot), fX9_find_b30 n o0 x1 x2 x3 x4 σ = some (r, σ') → MS D cy ad A s.heap z σ H locs → lv_has ls 11 [(0, va_rf (Option.map ad (some o0))), (1, .int x1), (2, .int x2), (3, .int x3), (4, .int x4)] → W p l e R s m args below meth c H locs 0 0 Q (F0 m 30 ls []) := by
  have hx := hC.1
  have hb := hC.2.1
  intro n
  induction n with
  | zero =>
    intro o0 x1 x2 x3 x4 σ H locs ls h
    cases h
  | succ n ih =>
    intro o0 x1 x2 x3 x4 σ H locs ls h hM hl
    rw [fX9_find_b30] at h
    refine lv_iload hx hb dX9_find_30 (lv_at hl 4 rfl) ?_
    refine lr_aload_n hx hb dX9_find_32 rfl (lv_at hl 0 rfl) ?_
    obtain ⟨t1, e_t1, h⟩ := bn h
    refine gf_X9_205 hC hG hM e_t1 dX9_find_33 ?_
    refine lv_icmp_ge (tgt := 83) hx hb dX9_find_36 (by decide) (fun c2 => ?_) (fun c2 => ?_)
    · rw [if_pos c2] at h
      exact wX9_find_b83 hC hG hR Kr _ _ _ _ _ _ _ _ h hM (lv_sub hl [0, 1, 2, 3] rfl)
    · rw [if_neg c2] at h
      refine lr_aload_n hx hb dX9_find_39 rfl (lv_at hl 0 rfl) ?_
      refine lv_iload hx hb dX9_find_40 (lv_at hl 4 rfl) ?_
      refine lv_iload_n hx hb dX9_find_42 rfl (lv_at hl 2 rfl) ?_
      obtain ⟨k3, e_k3, h⟩ := bn h
      obtain ⟨t4, m5, e_m5, h⟩ := b2_elim h
      refine cs_X9_260 e_k3 hC hG hM (cX9_mayBegin_ok e_m5) ⟨by omega, by omega⟩ hl.1 (by first | exact Nat.le_of_ble_eq_true rfl | simp [va_cat, vcI, vcL, vcR]) dX9_find_43 (fun H locs hM => ?_)
      refine lv_if_eq (tgt := 77) hx hb dX9_find_46 (by decide) (fun c6 => ?_) (fun c6 => ?_)
      · rw [if_pos c6] at h
        exact wX9_find_b77 hC hG hR Kr ih _ _ _ _ _ _ _ _ _ h hM (lv_sub hl [0, 1, 2, 3, 4] rfl)
      · rw [if_neg c6] at h
        refine lr_aload_n hx hb dX9_find_49 rfl (lv_at hl 0 rfl) ?_
        refine lv_iload hx hb dX9_find_50 (lv_at hl 4 rfl) ?_
        refine lv_iload_n hx hb dX9_find_52 rfl (lv_at hl 1 rfl) ?_
        refine lv_iload_n hx hb dX9_find_53 rfl (lv_at hl 2 rfl) ?_
        obtain ⟨k7, e_k7, h⟩ := bn h
        obtain ⟨t8, m9, e_m9, h⟩ := b2_elim h
        refine cs_X9_246 e_k7 hC hG hM (cX9_mayHave_ok e_m9) ⟨by omega, by omega⟩ hl.1 (by first | exact Nat.le_of_ble_eq_true rfl | simp [va_cat, vcI, vcL, vcR]) dX9_find_54 (fun H locs hM => ?_)
        refine lv_if_eq (tgt := 77) hx hb dX9_find_57 (by decide) (fun c10 => ?_) (fun c10 => ?_)
        · rw [if_pos c10] at h
          exact wX9_find_b77 hC hG hR Kr ih _ _ _ _ _ _ _ _ _ h hM (lv_sub hl [0, 1, 2, 3, 4] rfl)
        · rw [if_neg c10] at h
          refine lr_aload_n hx hb dX9_find_60 rfl (lv_at hl 0 rfl) ?_
          refine lv_iconst (v := 0) hx hb dX9_find_61 (by decide) ?_
          refine lv_iload hx hb dX9_find_62 (lv_at hl 4 rfl) ?_
          refine lv_iconst (v := 1) hx hb dX9_find_64 (by decide) ?_
          refine lv_iconst (v := 0) hx hb dX9_find_65 (by decide) ?_
          refine lr_aload_n hx hb dX9_find_66 rfl (lv_at hl 0 rfl) ?_
          refine lv_iload hx hb dX9_find_67 (lv_at hl 4 rfl) ?_
          refine lv_iload_n hx hb dX9_find_69 rfl (lv_at hl 1 rfl) ?_
          refine lv_iload_n hx hb dX9_find_70 rfl (lv_at hl 2 rfl) ?_
          obtain ⟨k11, e_k11, h⟩ := bn h
          obtain ⟨t12, m13, e_m13, h⟩ := b2_elim h
          refine cs_X9_250 e_k11 hC hG hM (cX9_monthCost_ok e_m13) ⟨by omega, by omega⟩ hl.1 (by first | exact Nat.le_of_ble_eq_true rfl | simp [va_cat, vcI, vcL, vcR]) dX9_find_71 (fun H locs hM => ?_)
          obtain ⟨k14, e_k14, h⟩ := bn h
          obtain ⟨m15, e_m15, h⟩ := bn h
          refine cs_X9_263 e_k14 hC hG hM (cX9_offer_ok e_m15) ⟨by omega, by omega⟩ hl.1 (by first | exact Nat.le_of_ble_eq_true rfl | simp [va_cat, vcI, vcL, vcR]) dX9_find_74 (fun H locs hM => ?_)
          exact wX9_find_b77 hC hG hR Kr ih _ _ _ _ _ _ _ _ _ h hM (lv_sub hl [0, 1, 2, 3, 4] rfl)
def fX9_find_b27  (o0 : Nat) (x1 : Int32) (x2 : Int32) (x3 : Int32)  (σ : Mem) : Option (Int32 × Mem) :=
  fX9_find_b30 FU o0 x1 x2 x3 0 σ
set_option maxRecDepth 20000 in
theorem wX9_find_b27 {r : Int32} {σ' : Mem} (hC : CallFix p m c cX9_find 11 s args WALL RX9) (hG : GS D cy A s) (hR : 4 ≤ R.frames ∧ 144 ≤ R.locals) (Kr : KrI p l e R s m args below meth c cX9_find Q D cy ad A z r σ')  (o0 : Nat) (x1 : Int32) (x2 : Int32) (x3 : Int32)  (σ : Mem) (H : Heap) (locs : List Loc) (ls : Array Slot) (h : fX9_find_b27 o0 x1 x2 x3 σ = some (r, σ')) (hM : MS D cy ad A s.heap z σ H locs) (hl : lv_has ls 11 [(0, va_rf (Option.map ad (some o0))), (1, .int x1), (2, .int x2), (3, .int x3)]) : W p l e R s m args below meth c H locs 0 0 Q (F0 m 27 ls []) := by
  have hx := hC.1
  have hb := hC.2.1
  unfold fX9_find_b27 at h
  refine lv_iconst (v := 0) hx hb dX9_find_27 (by decide) ?_
  refine lv_istore (lv' := [(4, .int 0), (0, va_rf (Option.map ad (some o0))), (1, .int x1), (2, .int x2), (3, .int x3)]) hx hb dX9_find_28 hl (by decide) (by first | rfl | simp [va_cat]) (fun ls hl => ?_)
  exact wX9_find_b30 hC hG hR Kr FU _ _ _ _ _ _ _ _ _ h hM (lv_sub hl [1, 2, 3, 4, 0] rfl)
def fX9_find_b3  : Nat → Nat → Int32 → Int32 → Int32 → Int32 → Mem → Option (Int32 × Mem)
  | 0, _, _, _, _, _, _ => none
  | n + 1, o0, x1, x2, x3, x4, σ =>
    if 250 ≤ x4 then fX9_find_b27 o0 x1 x2 x3 σ
      else (fR σ 9 30 (some o0)).bind fun t2 =>
        (wJ σ 12 t2 x4 1000000000000000).bind fun m3 =>
        bd (x4 + 1) fun t4 =>
        (fX9_find_b3 n) o0 x1 x2 x3 t4 m3
set_option maxRecDepth 20000 in
theorem wX9_find_b3 {r : Int32} {σ' : Mem} (hC : CallFix p m c cX9_find 11 s args WALL RX9) (hG : GS D cy A s) (hR : 4 ≤ R.frames ∧ 144 ≤ R.locals) (Kr : KrI p l e R s m args below meth c cX9_find Q D cy ad A z r σ')  : ∀ (n : Nat) (o0 : Nat) (x1 : Int32) (x2 : Int32) (x3 : Int32) (x4 : Int32)  (σ : Mem) (H : Heap) (locs : List Loc) (ls : Array Slot), fX9_find_b3 n o0 x1 x2 x3 x4 σ = some (r, σ') → MS D cy ad A s.heap z σ H locs → lv_has ls 11 [(0, va_rf (Option.map ad (some o0))), (1, .int x1), (2, .int x2), (3, .int x3), (4, .int x4)] → W p l e R s m args below meth c H locs 0 0 Q (F0 m 3 ls []) := by
  have hx := hC.1
  have hb := hC.2.1
  intro n
  induction n with
  | zero =>
    intro o0 x1 x2 x3 x4 σ H locs ls h
    cases h
  | succ n ih =>
    intro o0 x1 x2 x3 x4 σ H locs ls h hM hl
    rw [fX9_find_b3] at h
    refine lv_iload hx hb dX9_find_3 (lv_at hl 4 rfl) ?_
    refine lv_sipush (v := 250) hx hb dX9_find_5 (by decide) ?_
    refine lv_icmp_ge (tgt := 27) hx hb dX9_find_8 (by decide) (fun c1 => ?_) (fun c1 => ?_)
    · rw [if_pos c1] at h
      exact wX9_find_b27 hC hG hR Kr _ _ _ _ _ _ _ _ h hM (lv_sub hl [0, 1, 2, 3] rfl)
    · rw [if_neg c1] at h
      refine lr_aload_n hx hb dX9_find_11 rfl (lv_at hl 0 rfl) ?_
      obtain ⟨t2, e_t2, h⟩ := bn h
      refine gf_X9_57 hC hG hM e_t2 dX9_find_12 ?_
      refine lv_iload hx hb dX9_find_15 (lv_at hl 4 rfl) ?_
      refine lv_ldc2 (v := 1000000000000000) hx hb hC.2.2.2.1 (hC.2.2.2.2 _ wk_X9_258) dX9_find_17 ?_
      obtain ⟨m3, e_m3, h⟩ := bn h
      refine g_last hx hb hG hM e_m3 dX9_find_20 (fun H locs hM => ?_)
      obtain ⟨t4, e_t4, h⟩ := bd_elim h
      refine lv_iinc (v := t4) (lv' := [(4, .int t4), (0, va_rf (Option.map ad (some o0))), (1, .int x1), (2, .int x2), (3, .int x3)]) hx hb dX9_find_21 hl (k := 4) rfl (by rw [e_t4]; rfl) (by decide) (by first | rfl | simp [va_cat]) (fun ls hl => ?_)
      refine lv_goto (tgt := 3) hx hb dX9_find_24 (by decide) ?_
      exact ih _ _ _ _ _ _ _ _ _ h hM (lv_sub hl [1, 2, 3, 4, 0] rfl)
def fX9_find (o0 : Nat) (x1 : Int32) (x2 : Int32) (x3 : Int32) (σ : Mem) : Option (Int32 × Mem) :=
  fX9_find_b3 FU o0 x1 x2 x3 0 σ
set_option maxRecDepth 20000 in
theorem wX9_find {r : Int32} {σ' : Mem} (hC : CallFix p m c cX9_find 11 s args WALL RX9) (hG : GS D cy A s) (hR : 4 ≤ R.frames ∧ 144 ≤ R.locals) (Kr : KrI p l e R s m args below meth c cX9_find Q D cy ad A z r σ') (o0 : Nat) (x1 : Int32) (x2 : Int32) (x3 : Int32) (σ : Mem) (H : Heap) (locs : List Loc) (ls : Array Slot) (h : fX9_find o0 x1 x2 x3 σ = some (r, σ')) (hM : MS D cy ad A s.heap z σ H locs) (hl : lv_has ls 11 [(0, va_rf (Option.map ad (some o0))), (1, .int x1), (2, .int x2), (3, .int x3)]) : W p l e R s m args below meth c H locs 0 0 Q (F0 m 0 ls []) := by
  have hx := hC.1
  have hb := hC.2.1
  unfold fX9_find at h
  refine lv_iconst (v := 0) hx hb dX9_find_0 (by decide) ?_
  refine lv_istore (lv' := [(4, .int 0), (0, va_rf (Option.map ad (some o0))), (1, .int x1), (2, .int x2), (3, .int x3)]) hx hb dX9_find_1 hl (by decide) (by first | rfl | simp [va_cat]) (fun ls hl => ?_)
  exact wX9_find_b3 hC hG hR Kr FU _ _ _ _ _ _ _ _ _ h hM (lv_sub hl [1, 2, 3, 4, 0] rfl)
theorem cX9_find_ok {l : Launch} {D : va_G} {cy : Nat → ClassId} {ad : Nat → Nat} {A : Nat → Prop} {z : Nat} {r : Int32} {σ' : Mem} {o0 : Nat} {x1 : Int32} {x2 : Int32} {x3 : Int32} {σ : Mem} (h : fX9_find o0 x1 x2 x3 σ = some (r, σ')) : CtI l yX9_find cX9_find 11 (some .int) 4 [.ref (ad o0), .int x1, .int x2, .int x3] D cy ad A z σ r σ' :=
  enterI (own := RX9) (by decide) rfl (Nat.le_of_ble_eq_true rfl) rfl (fun p e s m below meth c Q ls hC hG hM Kr hl => wX9_find hC hG ⟨Nat.le_refl _, Nat.le_refl _⟩ Kr _ _ _ _ _ _ _ _ h hM hl)
/-! X9_readPlan (I)Z -/
def fX9_readPlan_b277  (o0 : Nat)  (σ : Mem) : Option (Int32 × Mem) :=
  (fI σ 9 6 (some o0)).bind fun t1 =>
    if t1 = 4 then (kT σ 9 (some o0)).bind fun k3 =>
      (fX9_go k3 σ).bind fun m4 =>
      some (1, m4)
    else (kT σ 9 (some o0)).bind fun k5 =>
      b2 (fX9_bad k5 1 σ) fun t6 m7 =>
      if t6 = 0 ∨ t6 = 1 then some (t6, m7) else none
set_option maxRecDepth 20000 in
theorem wX9_readPlan_b277 {r : Int32} {σ' : Mem} (hC : CallFix p m c cX9_readPlan 4 s args WALL RX9) (hG : GS D cy A s) (hR : 4 ≤ R.frames ∧ 144 ≤ R.locals) (Kr : KrZ p l e R s m args below meth c cX9_readPlan Q D cy ad A z r σ')  (o0 : Nat)  (σ : Mem) (H : Heap) (locs : List Loc) (ls : Array Slot) (h : fX9_readPlan_b277 o0 σ = some (r, σ')) (hM : MS D cy ad A s.heap z σ H locs) (hl : lv_has ls 4 [(0, va_rf (Option.map ad (some o0)))]) : W p l e R s m args below meth c H locs 0 0 Q (F0 m 277 ls []) := by
  have hx := hC.1
  have hb := hC.2.1
  unfold fX9_readPlan_b277 at h
  refine lr_aload_n hx hb dX9_readPlan_277 rfl (lv_at hl 0 rfl) ?_
  obtain ⟨t1, e_t1, h⟩ := bn h
  refine gf_X9_107 hC hG hM e_t1 dX9_readPlan_278 ?_
  refine lv_iconst (v := 4) hx hb dX9_readPlan_281 (by decide) ?_
  refine lv_icmp_eq (tgt := 291) hx hb dX9_readPlan_282 (by decide) (fun c2 => ?_) (fun c2 => ?_)
  · rw [if_pos c2] at h
    refine lr_aload_n hx hb dX9_readPlan_291 rfl (lv_at hl 0 rfl) ?_
    obtain ⟨k3, e_k3, h⟩ := bn h
    obtain ⟨m4, e_m4, h⟩ := bn h
    refine cs_X9_174 e_k3 hC hG hM (cX9_go_ok e_m4) ⟨by omega, by omega⟩ hl.1 (by first | exact Nat.le_of_ble_eq_true rfl | simp [va_cat, vcI, vcL, vcR]) dX9_readPlan_292 (fun H locs hM => ?_)
    refine lv_iconst (v := 1) hx hb dX9_readPlan_295 (by decide) ?_
    cases h
    exact Kr _ _ _ _ dX9_readPlan_296 rfl hM
  · rw [if_neg c2] at h
    refine lr_aload_n hx hb dX9_readPlan_285 rfl (lv_at hl 0 rfl) ?_
    refine lv_iconst (v := 1) hx hb dX9_readPlan_286 (by decide) ?_
    obtain ⟨k5, e_k5, h⟩ := bn h
    obtain ⟨t6, m7, e_m7, h⟩ := b2_elim h
    refine cs_X9_168 e_k5 hC hG hM (cX9_bad_ok e_m7) ⟨by omega, by omega⟩ hl.1 (by first | exact Nat.le_of_ble_eq_true rfl | simp [va_cat, vcI, vcL, vcR]) dX9_readPlan_287 (fun H locs hM => ?_)
    by_cases c8 : t6 = 0 ∨ t6 = 1
    · rw [if_pos c8] at h
      cases h
      exact Kr _ _ _ _ dX9_readPlan_290 (nar01 c8) hM
    · rw [if_neg c8] at h
      cases h
def fX9_readPlan_b275    (σ : Mem) : Option (Int32 × Mem) :=
  some (0, σ)
set_option maxRecDepth 20000 in
theorem wX9_readPlan_b275 {r : Int32} {σ' : Mem} (hC : CallFix p m c cX9_readPlan 4 s args WALL RX9) (hG : GS D cy A s) (hR : 4 ≤ R.frames ∧ 144 ≤ R.locals) (Kr : KrZ p l e R s m args below meth c cX9_readPlan Q D cy ad A z r σ')    (σ : Mem) (H : Heap) (locs : List Loc) (ls : Array Slot) (h : fX9_readPlan_b275  σ = some (r, σ')) (hM : MS D cy ad A s.heap z σ H locs) (hl : lv_has ls 4 []) : W p l e R s m args below meth c H locs 0 0 Q (F0 m 275 ls []) := by
  have hx := hC.1
  have hb := hC.2.1
  unfold fX9_readPlan_b275 at h
  refine lv_iconst (v := 0) hx hb dX9_readPlan_275 (by decide) ?_
  cases h
  exact Kr _ _ _ _ dX9_readPlan_276 rfl hM
def fX9_readPlan_b253  : Nat → Nat → Int32 → Mem → Option (Int32 × Mem)
  | 0, _, _, _ => none
  | n + 1, o0, x2, σ =>
    (kT σ 9 (some o0)).bind fun k1 =>
      b2 (fX9_isKey k1 4797 σ) fun t2 m3 =>
      if t2 = 0 then fX9_readPlan_b277 o0 m3
      else (kT m3 9 (some o0)).bind fun k5 =>
        (fX9_go k5 m3).bind fun m6 =>
        (kT m6 9 (some o0)).bind fun k7 =>
        b2 (fX9_readPart k7 x2 m6) fun t8 m9 =>
        if t8 = 0 then fX9_readPlan_b275 m9
        else (fX9_readPlan_b253 n) o0 x2 m9
set_option maxRecDepth 20000 in
theorem wX9_readPlan_b253 {r : Int32} {σ' : Mem} (hC : CallFix p m c cX9_readPlan 4 s args WALL RX9) (hG : GS D cy A s) (hR : 4 ≤ R.frames ∧ 144 ≤ R.locals) (Kr : KrZ p l e R s m args below meth c cX9_readPlan Q D cy ad A z r σ')  : ∀ (n : Nat) (o0 : Nat) (x2 : Int32)  (σ : Mem) (H : Heap) (locs : List Loc) (ls : Array Slot), fX9_readPlan_b253 n o0 x2 σ = some (r, σ') → MS D cy ad A s.heap z σ H locs → lv_has ls 4 [(0, va_rf (Option.map ad (some o0))), (2, .int x2)] → W p l e R s m args below meth c H locs 0 0 Q (F0 m 253 ls []) := by
  have hx := hC.1
  have hb := hC.2.1
  intro n
  induction n with
  | zero =>
    intro o0 x2 σ H locs ls h
    cases h
  | succ n ih =>
    intro o0 x2 σ H locs ls h hM hl
    rw [fX9_readPlan_b253] at h
    refine lr_aload_n hx hb dX9_readPlan_253 rfl (lv_at hl 0 rfl) ?_
    refine gs_X9_147 hC hG hM dX9_readPlan_254 ?_
    obtain ⟨k1, e_k1, h⟩ := bn h
    obtain ⟨t2, m3, e_m3, h⟩ := b2_elim h
    refine cs_X9_177 e_k1 hC hG hM (cX9_isKey_ok e_m3) ⟨by omega, by omega⟩ hl.1 (by first | exact Nat.le_of_ble_eq_true rfl | simp [va_cat, vcI, vcL, vcR]) dX9_readPlan_257 (fun H locs hM => ?_)
    refine lv_if_eq (tgt := 277) hx hb dX9_readPlan_260 (by decide) (fun c4 => ?_) (fun c4 => ?_)
    · rw [if_pos c4] at h
      exact wX9_readPlan_b277 hC hG hR Kr _ _ _ _ _ h hM (lv_sub hl [0] rfl)
    · rw [if_neg c4] at h
      refine lr_aload_n hx hb dX9_readPlan_263 rfl (lv_at hl 0 rfl) ?_
      obtain ⟨k5, e_k5, h⟩ := bn h
      obtain ⟨m6, e_m6, h⟩ := bn h
      refine cs_X9_174 e_k5 hC hG hM (cX9_go_ok e_m6) ⟨by omega, by omega⟩ hl.1 (by first | exact Nat.le_of_ble_eq_true rfl | simp [va_cat, vcI, vcL, vcR]) dX9_readPlan_264 (fun H locs hM => ?_)
      refine lr_aload_n hx hb dX9_readPlan_267 rfl (lv_at hl 0 rfl) ?_
      refine lv_iload_n hx hb dX9_readPlan_268 rfl (lv_at hl 1 rfl) ?_
      obtain ⟨k7, e_k7, h⟩ := bn h
      obtain ⟨t8, m9, e_m9, h⟩ := b2_elim h
      refine cs_X9_193 e_k7 hC hG hM (cX9_readPart_ok e_m9) ⟨by omega, by omega⟩ hl.1 (by first | exact Nat.le_of_ble_eq_true rfl | simp [va_cat, vcI, vcL, vcR]) dX9_readPlan_269 (fun H locs hM => ?_)
      refine lv_if_ne (tgt := 253) hx hb dX9_readPlan_272 (by decide) (fun c10 => ?_) (fun c10 => ?_)
      · rw [if_neg c10] at h
        exact ih _ _ _ _ _ _ h hM (lv_sub hl [0, 1] rfl)
      · rw [if_pos c10] at h
        exact wX9_readPlan_b275 hC hG hR Kr _ _ _ _ h hM (lv_sub hl [] rfl)
def fX9_readPlan_b241    (σ : Mem) : Option (Int32 × Mem) :=
  some (0, σ)
set_option maxRecDepth 20000 in
theorem wX9_readPlan_b241 {r : Int32} {σ' : Mem} (hC : CallFix p m c cX9_readPlan 4 s args WALL RX9) (hG : GS D cy A s) (hR : 4 ≤ R.frames ∧ 144 ≤ R.locals) (Kr : KrZ p l e R s m args below meth c cX9_readPlan Q D cy ad A z r σ')    (σ : Mem) (H : Heap) (locs : List Loc) (ls : Array Slot) (h : fX9_readPlan_b241  σ = some (r, σ')) (hM : MS D cy ad A s.heap z σ H locs) (hl : lv_has ls 4 []) : W p l e R s m args below meth c H locs 0 0 Q (F0 m 241 ls []) := by
  have hx := hC.1
  have hb := hC.2.1
  unfold fX9_readPlan_b241 at h
  refine lv_iconst (v := 0) hx hb dX9_readPlan_241 (by decide) ?_
  cases h
  exact Kr _ _ _ _ dX9_readPlan_242 rfl hM
def fX9_readPlan_b180  (o0 : Nat) (x2 : Int32)  (σ : Mem) : Option (Int32 × Mem) :=
  (kT σ 9 (some o0)).bind fun k1 =>
    b2 (fX9_isKey k1 131638 σ) fun t2 m3 =>
    if t2 = 0 then fX9_readPlan_b253 FU o0 x2 m3
    else (kT m3 9 (some o0)).bind fun k5 =>
      (fX9_go k5 m3).bind fun m6 =>
      (kT m6 9 (some o0)).bind fun k7 =>
      b2 (fX9_readNumber k7 0 23 m6) fun t8 m9 =>
      if t8 = 0 then some (0, m9)
      else (fR m9 9 14 (some o0)).bind fun t11 =>
        (fI m9 9 23 (some o0)).bind fun t12 =>
        (wI m9 11 t11 x2 t12).bind fun m13 =>
        (kT m13 9 (some o0)).bind fun k14 =>
        b2 (fX9_readKey k14 11450658 m13) fun t15 m16 =>
        if t15 = 0 then fX9_readPlan_b241 m16
        else (fR m16 9 14 (some o0)).bind fun t18 =>
          (aI m16 11 t18 x2).bind fun t19 =>
          (kT m16 9 (some o0)).bind fun k20 =>
          b2 (fX9_readNumber k20 t19 23 m16) fun t21 m22 =>
          if t21 = 0 then fX9_readPlan_b241 m22
          else (fR m22 9 15 (some o0)).bind fun t24 =>
            (fI m22 9 23 (some o0)).bind fun t25 =>
            (wI m22 11 t24 x2 t25).bind fun m26 =>
            fX9_readPlan_b253 FU o0 x2 m26
set_option maxRecDepth 20000 in
theorem wX9_readPlan_b180 {r : Int32} {σ' : Mem} (hC : CallFix p m c cX9_readPlan 4 s args WALL RX9) (hG : GS D cy A s) (hR : 4 ≤ R.frames ∧ 144 ≤ R.locals) (Kr : KrZ p l e R s m args below meth c cX9_readPlan Q D cy ad A z r σ')  (o0 : Nat) (x2 : Int32)  (σ : Mem) (H : Heap) (locs : List Loc) (ls : Array Slot) (h : fX9_readPlan_b180 o0 x2 σ = some (r, σ')) (hM : MS D cy ad A s.heap z σ H locs) (hl : lv_has ls 4 [(0, va_rf (Option.map ad (some o0))), (2, .int x2)]) : W p l e R s m args below meth c H locs 0 0 Q (F0 m 180 ls []) := by
  have hx := hC.1
  have hb := hC.2.1
  unfold fX9_readPlan_b180 at h
  refine lr_aload_n hx hb dX9_readPlan_180 rfl (lv_at hl 0 rfl) ?_
  refine gs_X9_141 hC hG hM dX9_readPlan_181 ?_
  obtain ⟨k1, e_k1, h⟩ := bn h
  obtain ⟨t2, m3, e_m3, h⟩ := b2_elim h
  refine cs_X9_177 e_k1 hC hG hM (cX9_isKey_ok e_m3) ⟨by omega, by omega⟩ hl.1 (by first | exact Nat.le_of_ble_eq_true rfl | simp [va_cat, vcI, vcL, vcR]) dX9_readPlan_184 (fun H locs hM => ?_)
  refine lv_if_eq (tgt := 253) hx hb dX9_readPlan_187 (by decide) (fun c4 => ?_) (fun c4 => ?_)
  · rw [if_pos c4] at h
    exact wX9_readPlan_b253 hC hG hR Kr FU _ _ _ _ _ _ h hM (lv_sub hl [0, 1] rfl)
  · rw [if_neg c4] at h
    refine lr_aload_n hx hb dX9_readPlan_190 rfl (lv_at hl 0 rfl) ?_
    obtain ⟨k5, e_k5, h⟩ := bn h
    obtain ⟨m6, e_m6, h⟩ := bn h
    refine cs_X9_174 e_k5 hC hG hM (cX9_go_ok e_m6) ⟨by omega, by omega⟩ hl.1 (by first | exact Nat.le_of_ble_eq_true rfl | simp [va_cat, vcI, vcL, vcR]) dX9_readPlan_191 (fun H locs hM => ?_)
    refine lr_aload_n hx hb dX9_readPlan_194 rfl (lv_at hl 0 rfl) ?_
    refine lv_iconst (v := 0) hx hb dX9_readPlan_195 (by decide) ?_
    refine lv_bipush (v := 23) hx hb dX9_readPlan_196 (by decide) ?_
    obtain ⟨k7, e_k7, h⟩ := bn h
    obtain ⟨t8, m9, e_m9, h⟩ := b2_elim h
    refine cs_X9_181 e_k7 hC hG hM (cX9_readNumber_ok e_m9) ⟨by omega, by omega⟩ hl.1 (by first | exact Nat.le_of_ble_eq_true rfl | simp [va_cat, vcI, vcL, vcR]) dX9_readPlan_198 (fun H locs hM => ?_)
    refine lv_if_ne (tgt := 206) hx hb dX9_readPlan_201 (by decide) (fun c10 => ?_) (fun c10 => ?_)
    · rw [if_neg c10] at h
      refine lr_aload_n hx hb dX9_readPlan_206 rfl (lv_at hl 0 rfl) ?_
      obtain ⟨t11, e_t11, h⟩ := bn h
      refine gf_X9_23 hC hG hM e_t11 dX9_readPlan_207 ?_
      refine lv_iload_n hx hb dX9_readPlan_210 rfl (lv_at hl 1 rfl) ?_
      refine lr_aload_n hx hb dX9_readPlan_211 rfl (lv_at hl 0 rfl) ?_
      obtain ⟨t12, e_t12, h⟩ := bn h
      refine gf_X9_171 hC hG hM e_t12 dX9_readPlan_212 ?_
      obtain ⟨m13, e_m13, h⟩ := bn h
      refine g_iast hx hb hG hM e_m13 dX9_readPlan_215 (fun H locs hM => ?_)
      refine lr_aload_n hx hb dX9_readPlan_216 rfl (lv_at hl 0 rfl) ?_
      refine gs_X9_144 hC hG hM dX9_readPlan_217 ?_
      obtain ⟨k14, e_k14, h⟩ := bn h
      obtain ⟨t15, m16, e_m16, h⟩ := b2_elim h
      refine cs_X9_185 e_k14 hC hG hM (cX9_readKey_ok e_m16) ⟨by omega, by omega⟩ hl.1 (by first | exact Nat.le_of_ble_eq_true rfl | simp [va_cat, vcI, vcL, vcR]) dX9_readPlan_220 (fun H locs hM => ?_)
      refine lv_if_eq (tgt := 241) hx hb dX9_readPlan_223 (by decide) (fun c17 => ?_) (fun c17 => ?_)
      · rw [if_pos c17] at h
        exact wX9_readPlan_b241 hC hG hR Kr _ _ _ _ h hM (lv_sub hl [] rfl)
      · rw [if_neg c17] at h
        refine lr_aload_n hx hb dX9_readPlan_226 rfl (lv_at hl 0 rfl) ?_
        refine lr_aload_n hx hb dX9_readPlan_227 rfl (lv_at hl 0 rfl) ?_
        obtain ⟨t18, e_t18, h⟩ := bn h
        refine gf_X9_23 hC hG hM e_t18 dX9_readPlan_228 ?_
        refine lv_iload_n hx hb dX9_readPlan_231 rfl (lv_at hl 1 rfl) ?_
        obtain ⟨t19, e_t19, h⟩ := bn h
        refine g_iald hx hb hG hM e_t19 dX9_readPlan_232 ?_
        refine lv_bipush (v := 23) hx hb dX9_readPlan_233 (by decide) ?_
        obtain ⟨k20, e_k20, h⟩ := bn h
        obtain ⟨t21, m22, e_m22, h⟩ := b2_elim h
        refine cs_X9_181 e_k20 hC hG hM (cX9_readNumber_ok e_m22) ⟨by omega, by omega⟩ hl.1 (by first | exact Nat.le_of_ble_eq_true rfl | simp [va_cat, vcI, vcL, vcR]) dX9_readPlan_235 (fun H locs hM => ?_)
        refine lv_if_ne (tgt := 243) hx hb dX9_readPlan_238 (by decide) (fun c23 => ?_) (fun c23 => ?_)
        · rw [if_neg c23] at h
          refine lr_aload_n hx hb dX9_readPlan_243 rfl (lv_at hl 0 rfl) ?_
          obtain ⟨t24, e_t24, h⟩ := bn h
          refine gf_X9_26 hC hG hM e_t24 dX9_readPlan_244 ?_
          refine lv_iload_n hx hb dX9_readPlan_247 rfl (lv_at hl 1 rfl) ?_
          refine lr_aload_n hx hb dX9_readPlan_248 rfl (lv_at hl 0 rfl) ?_
          obtain ⟨t25, e_t25, h⟩ := bn h
          refine gf_X9_171 hC hG hM e_t25 dX9_readPlan_249 ?_
          obtain ⟨m26, e_m26, h⟩ := bn h
          refine g_iast hx hb hG hM e_m26 dX9_readPlan_252 (fun H locs hM => ?_)
          exact wX9_readPlan_b253 hC hG hR Kr FU _ _ _ _ _ _ h hM (lv_sub hl [0, 1] rfl)
        · rw [if_pos c23] at h
          exact wX9_readPlan_b241 hC hG hR Kr _ _ _ _ h hM (lv_sub hl [] rfl)
    · rw [if_pos c10] at h
      refine lv_iconst (v := 0) hx hb dX9_readPlan_204 (by decide) ?_
      cases h
      exact Kr _ _ _ _ dX9_readPlan_205 rfl hM
def fX9_readPlan_b132    (σ : Mem) : Option (Int32 × Mem) :=
  some (0, σ)
set_option maxRecDepth 20000 in
theorem wX9_readPlan_b132 {r : Int32} {σ' : Mem} (hC : CallFix p m c cX9_readPlan 4 s args WALL RX9) (hG : GS D cy A s) (hR : 4 ≤ R.frames ∧ 144 ≤ R.locals) (Kr : KrZ p l e R s m args below meth c cX9_readPlan Q D cy ad A z r σ')    (σ : Mem) (H : Heap) (locs : List Loc) (ls : Array Slot) (h : fX9_readPlan_b132  σ = some (r, σ')) (hM : MS D cy ad A s.heap z σ H locs) (hl : lv_has ls 4 []) : W p l e R s m args below meth c H locs 0 0 Q (F0 m 132 ls []) := by
  have hx := hC.1
  have hb := hC.2.1
  unfold fX9_readPlan_b132 at h
  refine lv_iconst (v := 0) hx hb dX9_readPlan_132 (by decide) ?_
  cases h
  exact Kr _ _ _ _ dX9_readPlan_133 rfl hM
def fX9_readPlan_b108  (o0 : Nat) (x2 : Int32)  (σ : Mem) : Option (Int32 × Mem) :=
  (kT σ 9 (some o0)).bind fun k1 =>
    (fX9_go k1 σ).bind fun m2 =>
    (kT m2 9 (some o0)).bind fun k3 =>
    b2 (fX9_readKey k3 4514 m2) fun t4 m5 =>
    if t4 = 0 then fX9_readPlan_b132 m5
    else (kT m5 9 (some o0)).bind fun k7 =>
      b2 (fX9_readNumber k7 0 999999 m5) fun t8 m9 =>
      if t8 = 0 then fX9_readPlan_b132 m9
      else (fR m9 9 12 (some o0)).bind fun t11 =>
        (fI m9 9 23 (some o0)).bind fun t12 =>
        (wI m9 11 t11 x2 t12).bind fun m13 =>
        (kT m13 9 (some o0)).bind fun k14 =>
        b2 (fX9_isKey k14 397804 m13) fun t15 m16 =>
        if t15 = 0 then fX9_readPlan_b180 o0 x2 m16
        else (kT m16 9 (some o0)).bind fun k18 =>
          (fX9_go k18 m16).bind fun m19 =>
          (kT m19 9 (some o0)).bind fun k20 =>
          b2 (fX9_readNumber k20 1 24 m19) fun t21 m22 =>
          if t21 = 0 then some (0, m22)
          else (fR m22 9 13 (some o0)).bind fun t24 =>
            (fI m22 9 23 (some o0)).bind fun t25 =>
            (wI m22 11 t24 x2 t25).bind fun m26 =>
            fX9_readPlan_b180 o0 x2 m26
set_option maxRecDepth 20000 in
theorem wX9_readPlan_b108 {r : Int32} {σ' : Mem} (hC : CallFix p m c cX9_readPlan 4 s args WALL RX9) (hG : GS D cy A s) (hR : 4 ≤ R.frames ∧ 144 ≤ R.locals) (Kr : KrZ p l e R s m args below meth c cX9_readPlan Q D cy ad A z r σ')  (o0 : Nat) (x2 : Int32)  (σ : Mem) (H : Heap) (locs : List Loc) (ls : Array Slot) (h : fX9_readPlan_b108 o0 x2 σ = some (r, σ')) (hM : MS D cy ad A s.heap z σ H locs) (hl : lv_has ls 4 [(0, va_rf (Option.map ad (some o0))), (2, .int x2)]) : W p l e R s m args below meth c H locs 0 0 Q (F0 m 108 ls []) := by
  have hx := hC.1
  have hb := hC.2.1
  unfold fX9_readPlan_b108 at h
  refine lr_aload_n hx hb dX9_readPlan_108 rfl (lv_at hl 0 rfl) ?_
  obtain ⟨k1, e_k1, h⟩ := bn h
  obtain ⟨m2, e_m2, h⟩ := bn h
  refine cs_X9_174 e_k1 hC hG hM (cX9_go_ok e_m2) ⟨by omega, by omega⟩ hl.1 (by first | exact Nat.le_of_ble_eq_true rfl | simp [va_cat, vcI, vcL, vcR]) dX9_readPlan_109 (fun H locs hM => ?_)
  refine lr_aload_n hx hb dX9_readPlan_112 rfl (lv_at hl 0 rfl) ?_
  refine gs_X9_135 hC hG hM dX9_readPlan_113 ?_
  obtain ⟨k3, e_k3, h⟩ := bn h
  obtain ⟨t4, m5, e_m5, h⟩ := b2_elim h
  refine cs_X9_185 e_k3 hC hG hM (cX9_readKey_ok e_m5) ⟨by omega, by omega⟩ hl.1 (by first | exact Nat.le_of_ble_eq_true rfl | simp [va_cat, vcI, vcL, vcR]) dX9_readPlan_116 (fun H locs hM => ?_)
  refine lv_if_eq (tgt := 132) hx hb dX9_readPlan_119 (by decide) (fun c6 => ?_) (fun c6 => ?_)
  · rw [if_pos c6] at h
    exact wX9_readPlan_b132 hC hG hR Kr _ _ _ _ h hM (lv_sub hl [] rfl)
  · rw [if_neg c6] at h
    refine lr_aload_n hx hb dX9_readPlan_122 rfl (lv_at hl 0 rfl) ?_
    refine lv_iconst (v := 0) hx hb dX9_readPlan_123 (by decide) ?_
    refine lv_ldc (v := 999999) hx hb hC.2.2.2.1 (hC.2.2.2.2 _ wk_X9_192) dX9_readPlan_124 ?_
    obtain ⟨k7, e_k7, h⟩ := bn h
    obtain ⟨t8, m9, e_m9, h⟩ := b2_elim h
    refine cs_X9_181 e_k7 hC hG hM (cX9_readNumber_ok e_m9) ⟨by omega, by omega⟩ hl.1 (by first | exact Nat.le_of_ble_eq_true rfl | simp [va_cat, vcI, vcL, vcR]) dX9_readPlan_126 (fun H locs hM => ?_)
    refine lv_if_ne (tgt := 134) hx hb dX9_readPlan_129 (by decide) (fun c10 => ?_) (fun c10 => ?_)
    · rw [if_neg c10] at h
      refine lr_aload_n hx hb dX9_readPlan_134 rfl (lv_at hl 0 rfl) ?_
      obtain ⟨t11, e_t11, h⟩ := bn h
      refine gf_X9_17 hC hG hM e_t11 dX9_readPlan_135 ?_
      refine lv_iload_n hx hb dX9_readPlan_138 rfl (lv_at hl 1 rfl) ?_
      refine lr_aload_n hx hb dX9_readPlan_139 rfl (lv_at hl 0 rfl) ?_
      obtain ⟨t12, e_t12, h⟩ := bn h
      refine gf_X9_171 hC hG hM e_t12 dX9_readPlan_140 ?_
      obtain ⟨m13, e_m13, h⟩ := bn h
      refine g_iast hx hb hG hM e_m13 dX9_readPlan_143 (fun H locs hM => ?_)
      refine lr_aload_n hx hb dX9_readPlan_144 rfl (lv_at hl 0 rfl) ?_
      refine gs_X9_138 hC hG hM dX9_readPlan_145 ?_
      obtain ⟨k14, e_k14, h⟩ := bn h
      obtain ⟨t15, m16, e_m16, h⟩ := b2_elim h
      refine cs_X9_177 e_k14 hC hG hM (cX9_isKey_ok e_m16) ⟨by omega, by omega⟩ hl.1 (by first | exact Nat.le_of_ble_eq_true rfl | simp [va_cat, vcI, vcL, vcR]) dX9_readPlan_148 (fun H locs hM => ?_)
      refine lv_if_eq (tgt := 180) hx hb dX9_readPlan_151 (by decide) (fun c17 => ?_) (fun c17 => ?_)
      · rw [if_pos c17] at h
        exact wX9_readPlan_b180 hC hG hR Kr _ _ _ _ _ _ h hM (lv_sub hl [0, 1] rfl)
      · rw [if_neg c17] at h
        refine lr_aload_n hx hb dX9_readPlan_154 rfl (lv_at hl 0 rfl) ?_
        obtain ⟨k18, e_k18, h⟩ := bn h
        obtain ⟨m19, e_m19, h⟩ := bn h
        refine cs_X9_174 e_k18 hC hG hM (cX9_go_ok e_m19) ⟨by omega, by omega⟩ hl.1 (by first | exact Nat.le_of_ble_eq_true rfl | simp [va_cat, vcI, vcL, vcR]) dX9_readPlan_155 (fun H locs hM => ?_)
        refine lr_aload_n hx hb dX9_readPlan_158 rfl (lv_at hl 0 rfl) ?_
        refine lv_iconst (v := 1) hx hb dX9_readPlan_159 (by decide) ?_
        refine lv_bipush (v := 24) hx hb dX9_readPlan_160 (by decide) ?_
        obtain ⟨k20, e_k20, h⟩ := bn h
        obtain ⟨t21, m22, e_m22, h⟩ := b2_elim h
        refine cs_X9_181 e_k20 hC hG hM (cX9_readNumber_ok e_m22) ⟨by omega, by omega⟩ hl.1 (by first | exact Nat.le_of_ble_eq_true rfl | simp [va_cat, vcI, vcL, vcR]) dX9_readPlan_162 (fun H locs hM => ?_)
        refine lv_if_ne (tgt := 170) hx hb dX9_readPlan_165 (by decide) (fun c23 => ?_) (fun c23 => ?_)
        · rw [if_neg c23] at h
          refine lr_aload_n hx hb dX9_readPlan_170 rfl (lv_at hl 0 rfl) ?_
          obtain ⟨t24, e_t24, h⟩ := bn h
          refine gf_X9_20 hC hG hM e_t24 dX9_readPlan_171 ?_
          refine lv_iload_n hx hb dX9_readPlan_174 rfl (lv_at hl 1 rfl) ?_
          refine lr_aload_n hx hb dX9_readPlan_175 rfl (lv_at hl 0 rfl) ?_
          obtain ⟨t25, e_t25, h⟩ := bn h
          refine gf_X9_171 hC hG hM e_t25 dX9_readPlan_176 ?_
          obtain ⟨m26, e_m26, h⟩ := bn h
          refine g_iast hx hb hG hM e_m26 dX9_readPlan_179 (fun H locs hM => ?_)
          exact wX9_readPlan_b180 hC hG hR Kr _ _ _ _ _ _ h hM (lv_sub hl [0, 1] rfl)
        · rw [if_pos c23] at h
          refine lv_iconst (v := 0) hx hb dX9_readPlan_168 (by decide) ?_
          cases h
          exact Kr _ _ _ _ dX9_readPlan_169 rfl hM
    · rw [if_pos c10] at h
      exact wX9_readPlan_b132 hC hG hR Kr _ _ _ _ h hM (lv_sub hl [] rfl)
def fX9_readPlan_b86  : Nat → Nat → Int32 → Int32 → Mem → Option (Int32 × Mem)
  | 0, _, _, _, _ => none
  | n + 1, o0, x2, x3, σ =>
    if 4 ≤ x3 then fX9_readPlan_b108 o0 x2 σ
      else (fR σ 9 16 (some o0)).bind fun t2 =>
        (wI σ 13 t2 ((4 * x2) + x3) (vp_nar .boolean 0)).bind fun m3 =>
        bd (x3 + 1) fun t4 =>
        (fX9_readPlan_b86 n) o0 x2 t4 m3
set_option maxRecDepth 20000 in
theorem wX9_readPlan_b86 {r : Int32} {σ' : Mem} (hC : CallFix p m c cX9_readPlan 4 s args WALL RX9) (hG : GS D cy A s) (hR : 4 ≤ R.frames ∧ 144 ≤ R.locals) (Kr : KrZ p l e R s m args below meth c cX9_readPlan Q D cy ad A z r σ')  : ∀ (n : Nat) (o0 : Nat) (x2 : Int32) (x3 : Int32)  (σ : Mem) (H : Heap) (locs : List Loc) (ls : Array Slot), fX9_readPlan_b86 n o0 x2 x3 σ = some (r, σ') → MS D cy ad A s.heap z σ H locs → lv_has ls 4 [(0, va_rf (Option.map ad (some o0))), (2, .int x2), (3, .int x3)] → W p l e R s m args below meth c H locs 0 0 Q (F0 m 86 ls []) := by
  have hx := hC.1
  have hb := hC.2.1
  intro n
  induction n with
  | zero =>
    intro o0 x2 x3 σ H locs ls h
    cases h
  | succ n ih =>
    intro o0 x2 x3 σ H locs ls h hM hl
    rw [fX9_readPlan_b86] at h
    refine lv_iload_n hx hb dX9_readPlan_86 rfl (lv_at hl 2 rfl) ?_
    refine lv_iconst (v := 4) hx hb dX9_readPlan_87 (by decide) ?_
    refine lv_icmp_ge (tgt := 108) hx hb dX9_readPlan_88 (by decide) (fun c1 => ?_) (fun c1 => ?_)
    · rw [if_pos c1] at h
      exact wX9_readPlan_b108 hC hG hR Kr _ _ _ _ _ _ h hM (lv_sub hl [0, 1] rfl)
    · rw [if_neg c1] at h
      refine lr_aload_n hx hb dX9_readPlan_91 rfl (lv_at hl 0 rfl) ?_
      obtain ⟨t2, e_t2, h⟩ := bn h
      refine gf_X9_29 hC hG hM e_t2 dX9_readPlan_92 ?_
      refine lv_iconst (v := 4) hx hb dX9_readPlan_95 (by decide) ?_
      refine lv_iload_n hx hb dX9_readPlan_96 rfl (lv_at hl 1 rfl) ?_
      refine lv_imul hx hb dX9_readPlan_97 ?_
      refine lv_iload_n hx hb dX9_readPlan_98 rfl (lv_at hl 2 rfl) ?_
      refine lv_iadd hx hb dX9_readPlan_99 ?_
      refine lv_iconst (v := 0) hx hb dX9_readPlan_100 (by decide) ?_
      obtain ⟨m3, e_m3, h⟩ := bn h
      refine g_zast hx hb hG hM e_m3 dX9_readPlan_101 (fun H locs hM => ?_)
      obtain ⟨t4, e_t4, h⟩ := bd_elim h
      refine lv_iinc (v := t4) (lv' := [(3, .int t4), (0, va_rf (Option.map ad (some o0))), (2, .int x2)]) hx hb dX9_readPlan_102 hl (k := 2) rfl (by rw [e_t4]; rfl) (by decide) (by first | rfl | simp [va_cat]) (fun ls hl => ?_)
      refine lv_goto (tgt := 86) hx hb dX9_readPlan_105 (by decide) ?_
      exact ih _ _ _ _ _ _ _ h hM (lv_sub hl [1, 2, 0] rfl)
def fX9_readPlan_b52  (o0 : Nat) (x2 : Int32)  (σ : Mem) : Option (Int32 × Mem) :=
  (fR σ 9 11 (some o0)).bind fun t1 =>
    (fJ σ 9 10 (some o0)).bind fun t2 =>
    (wJ σ 12 t1 x2 t2).bind fun m3 =>
    (fR m3 9 13 (some o0)).bind fun t4 =>
    (wI m3 11 t4 x2 1).bind fun m5 =>
    (fR m5 9 14 (some o0)).bind fun t6 =>
    (wI m5 11 t6 x2 0).bind fun m7 =>
    (fR m7 9 15 (some o0)).bind fun t8 =>
    (wI m7 11 t8 x2 23).bind fun m9 =>
    fX9_readPlan_b86 FU o0 x2 0 m9
set_option maxRecDepth 20000 in
theorem wX9_readPlan_b52 {r : Int32} {σ' : Mem} (hC : CallFix p m c cX9_readPlan 4 s args WALL RX9) (hG : GS D cy A s) (hR : 4 ≤ R.frames ∧ 144 ≤ R.locals) (Kr : KrZ p l e R s m args below meth c cX9_readPlan Q D cy ad A z r σ')  (o0 : Nat) (x2 : Int32)  (σ : Mem) (H : Heap) (locs : List Loc) (ls : Array Slot) (h : fX9_readPlan_b52 o0 x2 σ = some (r, σ')) (hM : MS D cy ad A s.heap z σ H locs) (hl : lv_has ls 4 [(0, va_rf (Option.map ad (some o0))), (2, .int x2)]) : W p l e R s m args below meth c H locs 0 0 Q (F0 m 52 ls []) := by
  have hx := hC.1
  have hb := hC.2.1
  unfold fX9_readPlan_b52 at h
  refine lr_aload_n hx hb dX9_readPlan_52 rfl (lv_at hl 0 rfl) ?_
  obtain ⟨t1, e_t1, h⟩ := bn h
  refine gf_X9_13 hC hG hM e_t1 dX9_readPlan_53 ?_
  refine lv_iload_n hx hb dX9_readPlan_56 rfl (lv_at hl 1 rfl) ?_
  refine lr_aload_n hx hb dX9_readPlan_57 rfl (lv_at hl 0 rfl) ?_
  obtain ⟨t2, e_t2, h⟩ := bn h
  refine gf_X9_117 hC hG hM e_t2 dX9_readPlan_58 ?_
  obtain ⟨m3, e_m3, h⟩ := bn h
  refine g_last hx hb hG hM e_m3 dX9_readPlan_61 (fun H locs hM => ?_)
  refine lr_aload_n hx hb dX9_readPlan_62 rfl (lv_at hl 0 rfl) ?_
  obtain ⟨t4, e_t4, h⟩ := bn h
  refine gf_X9_20 hC hG hM e_t4 dX9_readPlan_63 ?_
  refine lv_iload_n hx hb dX9_readPlan_66 rfl (lv_at hl 1 rfl) ?_
  refine lv_iconst (v := 1) hx hb dX9_readPlan_67 (by decide) ?_
  obtain ⟨m5, e_m5, h⟩ := bn h
  refine g_iast hx hb hG hM e_m5 dX9_readPlan_68 (fun H locs hM => ?_)
  refine lr_aload_n hx hb dX9_readPlan_69 rfl (lv_at hl 0 rfl) ?_
  obtain ⟨t6, e_t6, h⟩ := bn h
  refine gf_X9_23 hC hG hM e_t6 dX9_readPlan_70 ?_
  refine lv_iload_n hx hb dX9_readPlan_73 rfl (lv_at hl 1 rfl) ?_
  refine lv_iconst (v := 0) hx hb dX9_readPlan_74 (by decide) ?_
  obtain ⟨m7, e_m7, h⟩ := bn h
  refine g_iast hx hb hG hM e_m7 dX9_readPlan_75 (fun H locs hM => ?_)
  refine lr_aload_n hx hb dX9_readPlan_76 rfl (lv_at hl 0 rfl) ?_
  obtain ⟨t8, e_t8, h⟩ := bn h
  refine gf_X9_26 hC hG hM e_t8 dX9_readPlan_77 ?_
  refine lv_iload_n hx hb dX9_readPlan_80 rfl (lv_at hl 1 rfl) ?_
  refine lv_bipush (v := 23) hx hb dX9_readPlan_81 (by decide) ?_
  obtain ⟨m9, e_m9, h⟩ := bn h
  refine g_iast hx hb hG hM e_m9 dX9_readPlan_83 (fun H locs hM => ?_)
  refine lv_iconst (v := 0) hx hb dX9_readPlan_84 (by decide) ?_
  refine lv_istore_n (lv' := [(3, .int 0), (0, va_rf (Option.map ad (some o0))), (2, .int x2)]) hx hb dX9_readPlan_85 rfl hl (by decide) (by first | rfl | simp [va_cat]) (fun ls hl => ?_)
  exact wX9_readPlan_b86 hC hG hR Kr FU _ _ _ _ _ _ _ h hM (lv_sub hl [1, 2, 0] rfl)
def fX9_readPlan_b21  : Nat → Nat → Int32 → Int32 → Mem → Option (Int32 × Mem)
  | 0, _, _, _, _ => none
  | n + 1, o0, x2, x3, σ =>
    if x2 ≤ x3 then fX9_readPlan_b52 o0 x2 σ
      else (fR σ 9 11 (some o0)).bind fun t2 =>
        (aJ σ 12 t2 x3).bind fun t3 =>
        (fJ σ 9 10 (some o0)).bind fun t4 =>
        if t3 = t4 then (kT σ 9 (some o0)).bind fun k7 =>
          b2 (fX9_bad k7 3 σ) fun t8 m9 =>
          if t8 = 0 ∨ t8 = 1 then some (t8, m9) else none
        else bd (x3 + 1) fun t6 =>
          (fX9_readPlan_b21 n) o0 x2 t6 σ
set_option maxRecDepth 20000 in
theorem wX9_readPlan_b21 {r : Int32} {σ' : Mem} (hC : CallFix p m c cX9_readPlan 4 s args WALL RX9) (hG : GS D cy A s) (hR : 4 ≤ R.frames ∧ 144 ≤ R.locals) (Kr : KrZ p l e R s m args below meth c cX9_readPlan Q D cy ad A z r σ')  : ∀ (n : Nat) (o0 : Nat) (x2 : Int32) (x3 : Int32)  (σ : Mem) (H : Heap) (locs : List Loc) (ls : Array Slot), fX9_readPlan_b21 n o0 x2 x3 σ = some (r, σ') → MS D cy ad A s.heap z σ H locs → lv_has ls 4 [(0, va_rf (Option.map ad (some o0))), (2, .int x2), (3, .int x3)] → W p l e R s m args below meth c H locs 0 0 Q (F0 m 21 ls []) := by
  have hx := hC.1
  have hb := hC.2.1
  intro n
  induction n with
  | zero =>
    intro o0 x2 x3 σ H locs ls h
    cases h
  | succ n ih =>
    intro o0 x2 x3 σ H locs ls h hM hl
    rw [fX9_readPlan_b21] at h
    refine lv_iload_n hx hb dX9_readPlan_21 rfl (lv_at hl 2 rfl) ?_
    refine lv_iload_n hx hb dX9_readPlan_22 rfl (lv_at hl 1 rfl) ?_
    refine lv_icmp_ge (tgt := 52) hx hb dX9_readPlan_23 (by decide) (fun c1 => ?_) (fun c1 => ?_)
    · rw [if_pos c1] at h
      exact wX9_readPlan_b52 hC hG hR Kr _ _ _ _ _ _ h hM (lv_sub hl [0, 1] rfl)
    · rw [if_neg c1] at h
      refine lr_aload_n hx hb dX9_readPlan_26 rfl (lv_at hl 0 rfl) ?_
      obtain ⟨t2, e_t2, h⟩ := bn h
      refine gf_X9_13 hC hG hM e_t2 dX9_readPlan_27 ?_
      refine lv_iload_n hx hb dX9_readPlan_30 rfl (lv_at hl 2 rfl) ?_
      obtain ⟨t3, e_t3, h⟩ := bn h
      refine g_lald hx hb hG hM e_t3 dX9_readPlan_31 ?_
      refine lr_aload_n hx hb dX9_readPlan_32 rfl (lv_at hl 0 rfl) ?_
      obtain ⟨t4, e_t4, h⟩ := bn h
      refine gf_X9_117 hC hG hM e_t4 dX9_readPlan_33 ?_
      refine lc_ne (tgt := 46) hx hb dX9_readPlan_36 dX9_readPlan_37 (by decide) (fun c5 => ?_) (fun c5 => ?_)
      · rw [if_neg c5] at h
        obtain ⟨t6, e_t6, h⟩ := bd_elim h
        refine lv_iinc (v := t6) (lv' := [(3, .int t6), (0, va_rf (Option.map ad (some o0))), (2, .int x2)]) hx hb dX9_readPlan_46 hl (k := 2) rfl (by rw [e_t6]; rfl) (by decide) (by first | rfl | simp [va_cat]) (fun ls hl => ?_)
        refine lv_goto (tgt := 21) hx hb dX9_readPlan_49 (by decide) ?_
        exact ih _ _ _ _ _ _ _ h hM (lv_sub hl [1, 2, 0] rfl)
      · rw [if_pos c5] at h
        refine lr_aload_n hx hb dX9_readPlan_40 rfl (lv_at hl 0 rfl) ?_
        refine lv_iconst (v := 3) hx hb dX9_readPlan_41 (by decide) ?_
        obtain ⟨k7, e_k7, h⟩ := bn h
        obtain ⟨t8, m9, e_m9, h⟩ := b2_elim h
        refine cs_X9_168 e_k7 hC hG hM (cX9_bad_ok e_m9) ⟨by omega, by omega⟩ hl.1 (by first | exact Nat.le_of_ble_eq_true rfl | simp [va_cat, vcI, vcL, vcR]) dX9_readPlan_42 (fun H locs hM => ?_)
        by_cases c10 : t8 = 0 ∨ t8 = 1
        · rw [if_pos c10] at h
          cases h
          exact Kr _ _ _ _ dX9_readPlan_45 (nar01 c10) hM
        · rw [if_neg c10] at h
          cases h
def fX9_readPlan (o0 : Nat) (x1 : Int32) (σ : Mem) : Option (Int32 × Mem) :=
  bd (10 + x1) fun t1 =>
    (kT σ 9 (some o0)).bind fun k2 =>
    b2 (fX9_isFree k2 σ) fun t3 m4 =>
    if t3 = 0 then (kT m4 9 (some o0)).bind fun k6 =>
      b2 (fX9_bad k6 1 m4) fun t7 m8 =>
      if t7 = 0 ∨ t7 = 1 then some (t7, m8) else none
    else fX9_readPlan_b21 FU o0 t1 10 m4
set_option maxRecDepth 20000 in
theorem wX9_readPlan {r : Int32} {σ' : Mem} (hC : CallFix p m c cX9_readPlan 4 s args WALL RX9) (hG : GS D cy A s) (hR : 4 ≤ R.frames ∧ 144 ≤ R.locals) (Kr : KrZ p l e R s m args below meth c cX9_readPlan Q D cy ad A z r σ') (o0 : Nat) (x1 : Int32) (σ : Mem) (H : Heap) (locs : List Loc) (ls : Array Slot) (h : fX9_readPlan o0 x1 σ = some (r, σ')) (hM : MS D cy ad A s.heap z σ H locs) (hl : lv_has ls 4 [(0, va_rf (Option.map ad (some o0))), (1, .int x1)]) : W p l e R s m args below meth c H locs 0 0 Q (F0 m 0 ls []) := by
  have hx := hC.1
  have hb := hC.2.1
  unfold fX9_readPlan at h
  refine lv_bipush (v := 10) hx hb dX9_readPlan_0 (by decide) ?_
  refine lv_iload_n hx hb dX9_readPlan_2 rfl (lv_at hl 1 rfl) ?_
  refine lv_iadd hx hb dX9_readPlan_3 ?_
  obtain ⟨t1, e_t1, h⟩ := bd_elim h
  refine lr_nmi e_t1 ?_
  refine lv_istore_n (lv' := [(2, .int t1), (0, va_rf (Option.map ad (some o0))), (1, .int x1)]) hx hb dX9_readPlan_4 rfl hl (by decide) (by first | rfl | simp [va_cat]) (fun ls hl => ?_)
  refine lr_aload_n hx hb dX9_readPlan_5 rfl (lv_at hl 1 rfl) ?_
  obtain ⟨k2, e_k2, h⟩ := bn h
  obtain ⟨t3, m4, e_m4, h⟩ := b2_elim h
  refine cs_X9_188 e_k2 hC hG hM (cX9_isFree_ok e_m4) ⟨by omega, by omega⟩ hl.1 (by first | exact Nat.le_of_ble_eq_true rfl | simp [va_cat, vcI, vcL, vcR]) dX9_readPlan_6 (fun H locs hM => ?_)
  refine lv_if_ne (tgt := 18) hx hb dX9_readPlan_9 (by decide) (fun c5 => ?_) (fun c5 => ?_)
  · rw [if_neg c5] at h
    refine lv_bipush (v := 10) hx hb dX9_readPlan_18 (by decide) ?_
    refine lv_istore_n (lv' := [(3, .int 10), (2, .int t1), (0, va_rf (Option.map ad (some o0))), (1, .int x1)]) hx hb dX9_readPlan_20 rfl hl (by decide) (by first | rfl | simp [va_cat]) (fun ls hl => ?_)
    exact wX9_readPlan_b21 hC hG hR Kr FU _ _ _ _ _ _ _ h hM (lv_sub hl [2, 1, 0] rfl)
  · rw [if_pos c5] at h
    refine lr_aload_n hx hb dX9_readPlan_12 rfl (lv_at hl 1 rfl) ?_
    refine lv_iconst (v := 1) hx hb dX9_readPlan_13 (by decide) ?_
    obtain ⟨k6, e_k6, h⟩ := bn h
    obtain ⟨t7, m8, e_m8, h⟩ := b2_elim h
    refine cs_X9_168 e_k6 hC hG hM (cX9_bad_ok e_m8) ⟨by omega, by omega⟩ hl.1 (by first | exact Nat.le_of_ble_eq_true rfl | simp [va_cat, vcI, vcL, vcR]) dX9_readPlan_14 (fun H locs hM => ?_)
    by_cases c9 : t7 = 0 ∨ t7 = 1
    · rw [if_pos c9] at h
      cases h
      exact Kr _ _ _ _ dX9_readPlan_17 (nar01 c9) hM
    · rw [if_neg c9] at h
      cases h
theorem cX9_readPlan_ok {l : Launch} {D : va_G} {cy : Nat → ClassId} {ad : Nat → Nat} {A : Nat → Prop} {z : Nat} {r : Int32} {σ' : Mem} {o0 : Nat} {x1 : Int32} {σ : Mem} (h : fX9_readPlan o0 x1 σ = some (r, σ')) : CtI l yX9_readPlan cX9_readPlan 4 (some .boolean) 4 [.ref (ad o0), .int x1] D cy ad A z σ r σ' :=
  enterZ (own := RX9) (by decide) rfl (Nat.le_of_ble_eq_true rfl) rfl (fun p e s m below meth c Q ls hC hG hM Kr hl => wX9_readPlan hC hG ⟨Nat.le_refl _, Nat.le_refl _⟩ Kr _ _ _ _ _ _ h hM hl)
/-! X4_readText ()Z -/
def fX4_readText_b83  (o0 : Nat)  (σ : Mem) : Option (Int32 × Mem) :=
  (kT σ 4 (some o0)).bind fun k1 =>
    b2 (fX4_refuse k1 1 σ) fun t2 m3 =>
    if t2 = 0 ∨ t2 = 1 then some (t2, m3) else none
set_option maxRecDepth 20000 in
theorem wX4_readText_b83 {r : Int32} {σ' : Mem} (hC : CallFix p m c cX4_readText 3 s args WALL RX4) (hG : GS D cy A s) (hR : 5 ≤ R.frames ∧ 180 ≤ R.locals) (Kr : KrZ p l e R s m args below meth c cX4_readText Q D cy ad A z r σ')  (o0 : Nat)  (σ : Mem) (H : Heap) (locs : List Loc) (ls : Array Slot) (h : fX4_readText_b83 o0 σ = some (r, σ')) (hM : MS D cy ad A s.heap z σ H locs) (hl : lv_has ls 3 [(0, va_rf (Option.map ad (some o0)))]) : W p l e R s m args below meth c H locs 0 0 Q (F0 m 83 ls []) := by
  have hx := hC.1
  have hb := hC.2.1
  unfold fX4_readText_b83 at h
  refine lr_aload_n hx hb dX4_readText_83 rfl (lv_at hl 0 rfl) ?_
  refine lv_iconst (v := 1) hx hb dX4_readText_84 (by decide) ?_
  obtain ⟨k1, e_k1, h⟩ := bn h
  obtain ⟨t2, m3, e_m3, h⟩ := b2_elim h
  refine cs_X4_42 e_k1 hC hG hM (cX4_refuse_ok e_m3) ⟨by omega, by omega⟩ hl.1 (by first | exact Nat.le_of_ble_eq_true rfl | simp [va_cat, vcI, vcL, vcR]) dX4_readText_85 (fun H locs hM => ?_)
  by_cases c4 : t2 = 0 ∨ t2 = 1
  · rw [if_pos c4] at h
    cases h
    exact Kr _ _ _ _ dX4_readText_88 (nar01 c4) hM
  · rw [if_neg c4] at h
    cases h
def fX4_readText_b27  : Nat → Nat → Int32 → Int32 → Mem → Option (Int32 × Mem)
  | 0, _, _, _, _ => none
  | n + 1, o0, x1, x2, σ =>
    if 800 < x2 then fX4_readText_b83 o0 σ
      else (kT σ 4 (some o0)).bind fun k2 =>
        (fX4_scan k2 σ).bind fun m3 =>
        (kT m3 4 (some o0)).bind fun k4 =>
        b2 (fX4_mayFollow k4 x1 m3) fun t5 m6 =>
        if t5 = 0 then (kT m6 4 (some o0)).bind fun k16 =>
          b2 (fX4_refuse k16 1 m6) fun t17 m18 =>
          if t17 = 0 ∨ t17 = 1 then some (t17, m18) else none
        else (fI m6 4 11 (some o0)).bind fun t8 =>
          if t8 = 11 then some (1, m6)
          else (fI m6 4 11 (some o0)).bind fun t10 =>
            (kT m6 4 (some o0)).bind fun k11 =>
            b2 (fX4_readPair k11 m6) fun t12 m13 =>
            if t12 = 0 then some (0, m13)
            else bd (x2 + 1) fun t15 =>
              (fX4_readText_b27 n) o0 t10 t15 m13
set_option maxRecDepth 20000 in
theorem wX4_readText_b27 {r : Int32} {σ' : Mem} (hC : CallFix p m c cX4_readText 3 s args WALL RX4) (hG : GS D cy A s) (hR : 5 ≤ R.frames ∧ 180 ≤ R.locals) (Kr : KrZ p l e R s m args below meth c cX4_readText Q D cy ad A z r σ')  : ∀ (n : Nat) (o0 : Nat) (x1 : Int32) (x2 : Int32)  (σ : Mem) (H : Heap) (locs : List Loc) (ls : Array Slot), fX4_readText_b27 n o0 x1 x2 σ = some (r, σ') → MS D cy ad A s.heap z σ H locs → lv_has ls 3 [(0, va_rf (Option.map ad (some o0))), (1, .int x1), (2, .int x2)] → W p l e R s m args below meth c H locs 0 0 Q (F0 m 27 ls []) := by
  have hx := hC.1
  have hb := hC.2.1
  intro n
  induction n with
  | zero =>
    intro o0 x1 x2 σ H locs ls h
    cases h
  | succ n ih =>
    intro o0 x1 x2 σ H locs ls h hM hl
    rw [fX4_readText_b27] at h
    refine lv_iload_n hx hb dX4_readText_27 rfl (lv_at hl 2 rfl) ?_
    refine lv_sipush (v := 800) hx hb dX4_readText_28 (by decide) ?_
    refine lv_icmp_gt (tgt := 83) hx hb dX4_readText_31 (by decide) (fun c1 => ?_) (fun c1 => ?_)
    · rw [if_pos c1] at h
      exact wX4_readText_b83 hC hG hR Kr _ _ _ _ _ h hM (lv_sub hl [0] rfl)
    · rw [if_neg c1] at h
      refine lr_aload_n hx hb dX4_readText_34 rfl (lv_at hl 0 rfl) ?_
      obtain ⟨k2, e_k2, h⟩ := bn h
      obtain ⟨m3, e_m3, h⟩ := bn h
      refine cs_X4_35 e_k2 hC hG hM (cX4_scan_ok e_m3) ⟨by omega, by omega⟩ hl.1 (by first | exact Nat.le_of_ble_eq_true rfl | simp [va_cat, vcI, vcL, vcR]) dX4_readText_35 (fun H locs hM => ?_)
      refine lr_aload_n hx hb dX4_readText_38 rfl (lv_at hl 0 rfl) ?_
      refine lv_iload_n hx hb dX4_readText_39 rfl (lv_at hl 1 rfl) ?_
      obtain ⟨k4, e_k4, h⟩ := bn h
      obtain ⟨t5, m6, e_m6, h⟩ := b2_elim h
      refine cs_X4_38 e_k4 hC hG hM (cX4_mayFollow_ok e_m6) ⟨by omega, by omega⟩ hl.1 (by first | exact Nat.le_of_ble_eq_true rfl | simp [va_cat, vcI, vcL, vcR]) dX4_readText_40 (fun H locs hM => ?_)
      refine lv_if_ne (tgt := 52) hx hb dX4_readText_43 (by decide) (fun c7 => ?_) (fun c7 => ?_)
      · rw [if_neg c7] at h
        refine lr_aload_n hx hb dX4_readText_52 rfl (lv_at hl 0 rfl) ?_
        obtain ⟨t8, e_t8, h⟩ := bn h
        refine gf_X4_45 hC hG hM e_t8 dX4_readText_53 ?_
        refine lv_bipush (v := 11) hx hb dX4_readText_56 (by decide) ?_
        refine lv_icmp_ne (tgt := 63) hx hb dX4_readText_58 (by decide) (fun c9 => ?_) (fun c9 => ?_)
        · rw [if_neg c9] at h
          refine lr_aload_n hx hb dX4_readText_63 rfl (lv_at hl 0 rfl) ?_
          obtain ⟨t10, e_t10, h⟩ := bn h
          refine gf_X4_45 hC hG hM e_t10 dX4_readText_64 ?_
          refine lv_istore_n (lv' := [(1, .int t10), (0, va_rf (Option.map ad (some o0))), (2, .int x2)]) hx hb dX4_readText_67 rfl hl (by decide) (by first | rfl | simp [va_cat]) (fun ls hl => ?_)
          refine lr_aload_n hx hb dX4_readText_68 rfl (lv_at hl 1 rfl) ?_
          obtain ⟨k11, e_k11, h⟩ := bn h
          obtain ⟨t12, m13, e_m13, h⟩ := b2_elim h
          refine cs_X4_48 e_k11 hC hG hM (cX4_readPair_ok e_m13) ⟨by omega, by omega⟩ hl.1 (by first | exact Nat.le_of_ble_eq_true rfl | simp [va_cat, vcI, vcL, vcR]) dX4_readText_69 (fun H locs hM => ?_)
          refine lv_if_ne (tgt := 77) hx hb dX4_readText_72 (by decide) (fun c14 => ?_) (fun c14 => ?_)
          · rw [if_neg c14] at h
            obtain ⟨t15, e_t15, h⟩ := bd_elim h
            refine lv_iinc (v := t15) (lv' := [(2, .int t15), (1, .int t10), (0, va_rf (Option.map ad (some o0)))]) hx hb dX4_readText_77 hl (k := 2) rfl (by rw [e_t15]; rfl) (by decide) (by first | rfl | simp [va_cat]) (fun ls hl => ?_)
            refine lv_goto (tgt := 27) hx hb dX4_readText_80 (by decide) ?_
            exact ih _ _ _ _ _ _ _ h hM (lv_sub hl [2, 1, 0] rfl)
          · rw [if_pos c14] at h
            refine lv_iconst (v := 0) hx hb dX4_readText_75 (by decide) ?_
            cases h
            exact Kr _ _ _ _ dX4_readText_76 rfl hM
        · rw [if_pos c9] at h
          refine lv_iconst (v := 1) hx hb dX4_readText_61 (by decide) ?_
          cases h
          exact Kr _ _ _ _ dX4_readText_62 rfl hM
      · rw [if_pos c7] at h
        refine lr_aload_n hx hb dX4_readText_46 rfl (lv_at hl 0 rfl) ?_
        refine lv_iconst (v := 1) hx hb dX4_readText_47 (by decide) ?_
        obtain ⟨k16, e_k16, h⟩ := bn h
        obtain ⟨t17, m18, e_m18, h⟩ := b2_elim h
        refine cs_X4_42 e_k16 hC hG hM (cX4_refuse_ok e_m18) ⟨by omega, by omega⟩ hl.1 (by first | exact Nat.le_of_ble_eq_true rfl | simp [va_cat, vcI, vcL, vcR]) dX4_readText_48 (fun H locs hM => ?_)
        by_cases c19 : t17 = 0 ∨ t17 = 1
        · rw [if_pos c19] at h
          cases h
          exact Kr _ _ _ _ dX4_readText_51 (nar01 c19) hM
        · rw [if_neg c19] at h
          cases h
def fX4_readText (o0 : Nat) (σ : Mem) : Option (Int32 × Mem) :=
  (fR σ 4 1 (some o0)).bind fun t1 =>
    (pI σ 3 1 t1 0).bind fun m2 =>
    (pI m2 4 4 (some o0) 0).bind fun m3 =>
    (pI m3 4 7 (some o0) 0).bind fun m4 =>
    (pI m4 4 8 (some o0) 0).bind fun m5 =>
    fX4_readText_b27 FU o0 (-1) 0 m5
set_option maxRecDepth 20000 in
theorem wX4_readText {r : Int32} {σ' : Mem} (hC : CallFix p m c cX4_readText 3 s args WALL RX4) (hG : GS D cy A s) (hR : 5 ≤ R.frames ∧ 180 ≤ R.locals) (Kr : KrZ p l e R s m args below meth c cX4_readText Q D cy ad A z r σ') (o0 : Nat) (σ : Mem) (H : Heap) (locs : List Loc) (ls : Array Slot) (h : fX4_readText o0 σ = some (r, σ')) (hM : MS D cy ad A s.heap z σ H locs) (hl : lv_has ls 3 [(0, va_rf (Option.map ad (some o0)))]) : W p l e R s m args below meth c H locs 0 0 Q (F0 m 0 ls []) := by
  have hx := hC.1
  have hb := hC.2.1
  unfold fX4_readText at h
  refine lr_aload_n hx hb dX4_readText_0 rfl (lv_at hl 0 rfl) ?_
  obtain ⟨t1, e_t1, h⟩ := bn h
  refine gf_X4_18 hC hG hM e_t1 dX4_readText_1 ?_
  refine lv_iconst (v := 0) hx hb dX4_readText_4 (by decide) ?_
  obtain ⟨m2, e_m2, h⟩ := bn h
  refine pf_X4_22 hC hG hM e_m2 dX4_readText_5 (fun H locs hM => ?_)
  refine lr_aload_n hx hb dX4_readText_8 rfl (lv_at hl 0 rfl) ?_
  refine lv_iconst (v := 0) hx hb dX4_readText_9 (by decide) ?_
  obtain ⟨m3, e_m3, h⟩ := bn h
  refine pf_X4_26 hC hG hM e_m3 dX4_readText_10 (fun H locs hM => ?_)
  refine lr_aload_n hx hb dX4_readText_13 rfl (lv_at hl 0 rfl) ?_
  refine lv_iconst (v := 0) hx hb dX4_readText_14 (by decide) ?_
  obtain ⟨m4, e_m4, h⟩ := bn h
  refine pf_X4_29 hC hG hM e_m4 dX4_readText_15 (fun H locs hM => ?_)
  refine lr_aload_n hx hb dX4_readText_18 rfl (lv_at hl 0 rfl) ?_
  refine lv_iconst (v := 0) hx hb dX4_readText_19 (by decide) ?_
  obtain ⟨m5, e_m5, h⟩ := bn h
  refine pf_X4_32 hC hG hM e_m5 dX4_readText_20 (fun H locs hM => ?_)
  refine lv_iconst (v := (-1)) hx hb dX4_readText_23 (by decide) ?_
  refine lv_istore_n (lv' := [(1, .int (-1)), (0, va_rf (Option.map ad (some o0)))]) hx hb dX4_readText_24 rfl hl (by decide) (by first | rfl | simp [va_cat]) (fun ls hl => ?_)
  refine lv_iconst (v := 0) hx hb dX4_readText_25 (by decide) ?_
  refine lv_istore_n (lv' := [(2, .int 0), (1, .int (-1)), (0, va_rf (Option.map ad (some o0)))]) hx hb dX4_readText_26 rfl hl (by decide) (by first | rfl | simp [va_cat]) (fun ls hl => ?_)
  exact wX4_readText_b27 hC hG hR Kr FU _ _ _ _ _ _ _ h hM (lv_sub hl [2, 1, 0] rfl)
theorem cX4_readText_ok {l : Launch} {D : va_G} {cy : Nat → ClassId} {ad : Nat → Nat} {A : Nat → Prop} {z : Nat} {r : Int32} {σ' : Mem} {o0 : Nat} {σ : Mem} (h : fX4_readText o0 σ = some (r, σ')) : CtI l yX4_readText cX4_readText 3 (some .boolean) 5 [.ref (ad o0)] D cy ad A z σ r σ' :=
  enterZ (own := RX4) (by decide) rfl (Nat.le_of_ble_eq_true rfl) rfl (fun p e s m below meth c Q ls hC hG hM Kr hl => wX4_readText hC hG ⟨Nat.le_refl _, Nat.le_refl _⟩ Kr _ _ _ _ _ h hM hl)
end WK
