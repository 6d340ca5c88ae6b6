section WK
variable {p : Program} {l : Launch} {e : Env} {R : Room} {s : State} {m : MethodId} {args : Array Value} {below : List Frame} {meth : Method} {c : Code} {Q : State → Prop}
variable {D : va_G} {cy : Nat → ClassId} {ad : Nat → Nat} {A : Nat → Prop} {z : Nat}
/-! X4_readName ()Z -/
def fX4_readName_b75    (σ : Mem) : Option (Int32 × Mem) :=
  some (1, σ)
set_option maxRecDepth 20000 in
theorem wX4_readName_b75 {r : Int32} {σ' : Mem} (hC : CallFix p m c cX4_readName 1 s args WALL RX4) (hG : GS D cy A s) (hR : 3 ≤ R.frames ∧ 108 ≤ R.locals) (Kr : KrZ p l e R s m args below meth c cX4_readName Q D cy ad A z r σ')    (σ : Mem) (H : Heap) (locs : List Loc) (ls : Array Slot) (h : fX4_readName_b75  σ = some (r, σ')) (hM : MS D cy ad A s.heap z σ H locs) (hl : lv_has ls 1 []) : W p l e R s m args below meth c H locs 0 0 Q (F0 m 75 ls []) := by
  have hx := hC.1
  have hb := hC.2.1
  unfold fX4_readName_b75 at h
  refine lv_iconst (v := 1) hx hb dX4_readName_75 (by decide) ?_
  cases h
  exact Kr _ _ _ _ dX4_readName_76 rfl hM
def fX4_readName_b20  (o0 : Nat)  (σ : Mem) : Option (Int32 × Mem) :=
  (kT σ 4 (some o0)).bind fun k1 =>
    b2 (fX4_refuse k1 1 σ) fun t2 m3 =>
    if t2 = 0 ∨ t2 = 1 then some (t2, m3) else none
set_option maxRecDepth 20000 in
theorem wX4_readName_b20 {r : Int32} {σ' : Mem} (hC : CallFix p m c cX4_readName 1 s args WALL RX4) (hG : GS D cy A s) (hR : 3 ≤ R.frames ∧ 108 ≤ R.locals) (Kr : KrZ p l e R s m args below meth c cX4_readName Q D cy ad A z r σ')  (o0 : Nat)  (σ : Mem) (H : Heap) (locs : List Loc) (ls : Array Slot) (h : fX4_readName_b20 o0 σ = some (r, σ')) (hM : MS D cy ad A s.heap z σ H locs) (hl : lv_has ls 1 [(0, va_rf (Option.map ad (some o0)))]) : W p l e R s m args below meth c H locs 0 0 Q (F0 m 20 ls []) := by
  have hx := hC.1
  have hb := hC.2.1
  unfold fX4_readName_b20 at h
  refine lr_aload_n hx hb dX4_readName_20 rfl (lv_at hl 0 rfl) ?_
  refine lv_iconst (v := 1) hx hb dX4_readName_21 (by decide) ?_
  obtain ⟨k1, e_k1, h⟩ := bn h
  obtain ⟨t2, m3, e_m3, h⟩ := b2_elim h
  refine cs_X4_42 e_k1 hC hG hM (cX4_refuse_ok e_m3) ⟨by omega, by omega⟩ hl.1 (by first | exact Nat.le_of_ble_eq_true rfl | simp [va_cat, vcI, vcL, vcR]) dX4_readName_22 (fun H locs hM => ?_)
  by_cases c4 : t2 = 0 ∨ t2 = 1
  · rw [if_pos c4] at h
    cases h
    exact Kr _ _ _ _ dX4_readName_25 (nar01 c4) hM
  · rw [if_neg c4] at h
    cases h
def fX4_readName (o0 : Nat) (σ : Mem) : Option (Int32 × Mem) :=
  (kT σ 4 (some o0)).bind fun k1 =>
    (fX4_scan k1 σ).bind fun m2 =>
    (fI m2 4 6 (some o0)).bind fun t3 =>
    if t3 = 1 then (fI m2 4 11 (some o0)).bind fun t5 =>
      if t5 = (-1) then (fR m2 4 1 (some o0)).bind fun t7 =>
        (fJ m2 4 9 (some o0)).bind fun t8 =>
        (kT m2 3 t7).bind fun k9 =>
        b2 (fX3_hasName k9 t8 m2) fun t10 m11 =>
        if t10 = 0 then (fR m11 4 2 (some o0)).bind fun t13 =>
          if t13 = none then fX4_readName_b75 m11
          else (fR m11 4 2 (some o0)).bind fun t15 =>
            (fJ m11 4 9 (some o0)).bind fun t16 =>
            (pJ m11 2 1 t15 t16).bind fun m17 =>
            (fR m17 4 2 (some o0)).bind fun t18 =>
            (fI m17 4 8 (some o0)).bind fun t19 =>
            (pI m17 2 2 t18 t19).bind fun m20 =>
            fX4_readName_b75 m20
        else (kT m11 4 (some o0)).bind fun k21 =>
          b2 (fX4_refuse k21 3 m11) fun t22 m23 =>
          if t22 = 0 ∨ t22 = 1 then some (t22, m23) else none
      else fX4_readName_b20 o0 m2
    else fX4_readName_b20 o0 m2
set_option maxRecDepth 20000 in
theorem wX4_readName {r : Int32} {σ' : Mem} (hC : CallFix p m c cX4_readName 1 s args WALL RX4) (hG : GS D cy A s) (hR : 3 ≤ R.frames ∧ 108 ≤ R.locals) (Kr : KrZ p l e R s m args below meth c cX4_readName Q D cy ad A z r σ') (o0 : Nat) (σ : Mem) (H : Heap) (locs : List Loc) (ls : Array Slot) (h : fX4_readName o0 σ = some (r, σ')) (hM : MS D cy ad A s.heap z σ H locs) (hl : lv_has ls 1 [(0, va_rf (Option.map ad (some o0)))]) : W p l e R s m args below meth c H locs 0 0 Q (F0 m 0 ls []) := by
  have hx := hC.1
  have hb := hC.2.1
  unfold fX4_readName at h
  refine lr_aload_n hx hb dX4_readName_0 rfl (lv_at hl 0 rfl) ?_
  obtain ⟨k1, e_k1, h⟩ := bn h
  obtain ⟨m2, e_m2, h⟩ := bn h
  refine cs_X4_35 e_k1 hC hG hM (cX4_scan_ok e_m2) ⟨by omega, by omega⟩ hl.1 (by first | exact Nat.le_of_ble_eq_true rfl | simp [va_cat, vcI, vcL, vcR]) dX4_readName_1 (fun H locs hM => ?_)
  refine lr_aload_n hx hb dX4_readName_4 rfl (lv_at hl 0 rfl) ?_
  obtain ⟨t3, e_t3, h⟩ := bn h
  refine gf_X4_75 hC hG hM e_t3 dX4_readName_5 ?_
  refine lv_iconst (v := 1) hx hb dX4_readName_8 (by decide) ?_
  refine lv_icmp_ne (tgt := 20) hx hb dX4_readName_9 (by decide) (fun c4 => ?_) (fun c4 => ?_)
  · rw [if_neg c4] at h
    exact wX4_readName_b20 hC hG hR Kr _ _ _ _ _ h hM (lv_sub hl [0] rfl)
  · rw [if_pos c4] at h
    refine lr_aload_n hx hb dX4_readName_12 rfl (lv_at hl 0 rfl) ?_
    obtain ⟨t5, e_t5, h⟩ := bn h
    refine gf_X4_45 hC hG hM e_t5 dX4_readName_13 ?_
    refine lv_iconst (v := (-1)) hx hb dX4_readName_16 (by decide) ?_
    refine lv_icmp_eq (tgt := 26) hx hb dX4_readName_17 (by decide) (fun c6 => ?_) (fun c6 => ?_)
    · rw [if_pos c6] at h
      refine lr_aload_n hx hb dX4_readName_26 rfl (lv_at hl 0 rfl) ?_
      obtain ⟨t7, e_t7, h⟩ := bn h
      refine gf_X4_18 hC hG hM e_t7 dX4_readName_27 ?_
      refine lr_aload_n hx hb dX4_readName_30 rfl (lv_at hl 0 rfl) ?_
      obtain ⟨t8, e_t8, h⟩ := bn h
      refine gf_X4_78 hC hG hM e_t8 dX4_readName_31 ?_
      obtain ⟨k9, e_k9, h⟩ := bn h
      obtain ⟨t10, m11, e_m11, h⟩ := b2_elim h
      refine cs_X4_82 e_k9 hC hG hM (cX3_hasName_ok e_m11) ⟨by omega, by omega⟩ hl.1 (by first | exact Nat.le_of_ble_eq_true rfl | simp [va_cat, vcI, vcL, vcR]) dX4_readName_34 (fun H locs hM => ?_)
      refine lv_if_eq (tgt := 46) hx hb dX4_readName_37 (by decide) (fun c12 => ?_) (fun c12 => ?_)
      · rw [if_pos c12] at h
        refine lr_aload_n hx hb dX4_readName_46 rfl (lv_at hl 0 rfl) ?_
        obtain ⟨t13, e_t13, h⟩ := bn h
        refine gf_X4_56 hC hG hM e_t13 dX4_readName_47 ?_
        refine lr_ifnull (tgt := 75) hx hb dX4_readName_50 (by decide) (fun c14 => ?_) (fun c14 => ?_)
        · rw [if_pos c14] at h
          exact wX4_readName_b75 hC hG hR Kr _ _ _ _ h hM (lv_sub hl [] rfl)
        · rw [if_neg c14] at h
          refine lr_aload_n hx hb dX4_readName_53 rfl (lv_at hl 0 rfl) ?_
          obtain ⟨t15, e_t15, h⟩ := bn h
          refine gf_X4_56 hC hG hM e_t15 dX4_readName_54 ?_
          refine lr_aload_n hx hb dX4_readName_57 rfl (lv_at hl 0 rfl) ?_
          obtain ⟨t16, e_t16, h⟩ := bn h
          refine gf_X4_78 hC hG hM e_t16 dX4_readName_58 ?_
          obtain ⟨m17, e_m17, h⟩ := bn h
          refine pf_X4_86 hC hG hM e_m17 dX4_readName_61 (fun H locs hM => ?_)
          refine lr_aload_n hx hb dX4_readName_64 rfl (lv_at hl 0 rfl) ?_
          obtain ⟨t18, e_t18, h⟩ := bn h
          refine gf_X4_56 hC hG hM e_t18 dX4_readName_65 ?_
          refine lr_aload_n hx hb dX4_readName_68 rfl (lv_at hl 0 rfl) ?_
          obtain ⟨t19, e_t19, h⟩ := bn h
          refine gf_X4_32 hC hG hM e_t19 dX4_readName_69 ?_
          obtain ⟨m20, e_m20, h⟩ := bn h
          refine pf_X4_91 hC hG hM e_m20 dX4_readName_72 (fun H locs hM => ?_)
          exact wX4_readName_b75 hC hG hR Kr _ _ _ _ h hM (lv_sub hl [] rfl)
      · rw [if_neg c12] at h
        refine lr_aload_n hx hb dX4_readName_40 rfl (lv_at hl 0 rfl) ?_
        refine lv_iconst (v := 3) hx hb dX4_readName_41 (by decide) ?_
        obtain ⟨k21, e_k21, h⟩ := bn h
        obtain ⟨t22, m23, e_m23, h⟩ := b2_elim h
        refine cs_X4_42 e_k21 hC hG hM (cX4_refuse_ok e_m23) ⟨by omega, by omega⟩ hl.1 (by first | exact Nat.le_of_ble_eq_true rfl | simp [va_cat, vcI, vcL, vcR]) dX4_readName_42 (fun H locs hM => ?_)
        by_cases c24 : t22 = 0 ∨ t22 = 1
        · rw [if_pos c24] at h
          cases h
          exact Kr _ _ _ _ dX4_readName_45 (nar01 c24) hM
        · rw [if_neg c24] at h
          cases h
    · rw [if_neg c6] at h
      exact wX4_readName_b20 hC hG hR Kr _ _ _ _ _ h hM (lv_sub hl [0] rfl)
theorem cX4_readName_ok {l : Launch} {D : va_G} {cy : Nat → ClassId} {ad : Nat → Nat} {A : Nat → Prop} {z : Nat} {r : Int32} {σ' : Mem} {o0 : Nat} {σ : Mem} (h : fX4_readName o0 σ = some (r, σ')) : CtI l yX4_readName cX4_readName 1 (some .boolean) 3 [.ref (ad o0)] D cy ad A z σ r σ' :=
  enterZ (own := RX4) (by decide) rfl (Nat.le_of_ble_eq_true rfl) rfl (fun p e s m below meth c Q ls hC hG hM Kr hl => wX4_readName hC hG ⟨Nat.le_refl _, Nat.le_refl _⟩ Kr _ _ _ _ _ h hM hl)
/-! X4_readNumber (I)Z -/
def fX4_readNumber_b75  (o0 : Nat) (x1 : Int32)  (σ : Mem) : Option (Int32 × Mem) :=
  (kT σ 4 (some o0)).bind fun k1 =>
    (fX4_putInPlan k1 x1 σ).bind fun m2 =>
    (kT m2 4 (some o0)).bind fun k3 =>
    (fX4_putInPart k3 x1 m2).bind fun m4 =>
    some (1, m4)
set_option maxRecDepth 20000 in
theorem wX4_readNumber_b75 {r : Int32} {σ' : Mem} (hC : CallFix p m c cX4_readNumber 2 s args WALL RX4) (hG : GS D cy A s) (hR : 3 ≤ R.frames ∧ 108 ≤ R.locals) (Kr : KrZ p l e R s m args below meth c cX4_readNumber Q D cy ad A z r σ')  (o0 : Nat) (x1 : Int32)  (σ : Mem) (H : Heap) (locs : List Loc) (ls : Array Slot) (h : fX4_readNumber_b75 o0 x1 σ = some (r, σ')) (hM : MS D cy ad A s.heap z σ H locs) (hl : lv_has ls 2 [(0, va_rf (Option.map ad (some o0))), (1, .int x1)]) : W p l e R s m args below meth c H locs 0 0 Q (F0 m 75 ls []) := by
  have hx := hC.1
  have hb := hC.2.1
  unfold fX4_readNumber_b75 at h
  refine lr_aload_n hx hb dX4_readNumber_75 rfl (lv_at hl 0 rfl) ?_
  refine lv_iload_n hx hb dX4_readNumber_76 rfl (lv_at hl 1 rfl) ?_
  obtain ⟨k1, e_k1, h⟩ := bn h
  obtain ⟨m2, e_m2, h⟩ := bn h
  refine cs_X4_112 e_k1 hC hG hM (cX4_putInPlan_ok e_m2) ⟨by omega, by omega⟩ hl.1 (by first | exact Nat.le_of_ble_eq_true rfl | simp [va_cat, vcI, vcL, vcR]) dX4_readNumber_77 (fun H locs hM => ?_)
  refine lr_aload_n hx hb dX4_readNumber_80 rfl (lv_at hl 0 rfl) ?_
  refine lv_iload_n hx hb dX4_readNumber_81 rfl (lv_at hl 1 rfl) ?_
  obtain ⟨k3, e_k3, h⟩ := bn h
  obtain ⟨m4, e_m4, h⟩ := bn h
  refine cs_X4_116 e_k3 hC hG hM (cX4_putInPart_ok e_m4) ⟨by omega, by omega⟩ hl.1 (by first | exact Nat.le_of_ble_eq_true rfl | simp [va_cat, vcI, vcL, vcR]) dX4_readNumber_82 (fun H locs hM => ?_)
  refine lv_iconst (v := 1) hx hb dX4_readNumber_85 (by decide) ?_
  cases h
  exact Kr _ _ _ _ dX4_readNumber_86 rfl hM
def fX4_readNumber (o0 : Nat) (x1 : Int32) (σ : Mem) : Option (Int32 × Mem) :=
  (kT σ 4 (some o0)).bind fun k1 =>
    (fX4_scan k1 σ).bind fun m2 =>
    (fI m2 4 6 (some o0)).bind fun t3 =>
    if t3 = 2 then (fI m2 4 10 (some o0)).bind fun t5 =>
      (kT m2 4 (some o0)).bind fun k6 =>
      b2 (fX4_leastBehind k6 x1 m2) fun t7 m8 =>
      b2 (fX4_greatestBehind x1 m8) fun t9 m10 =>
      b2 (fX8_isWithin t5 t7 t9 m10) fun t11 m12 =>
      if t11 = 0 then (kT m12 4 (some o0)).bind fun k27 =>
        b2 (fX4_refuse k27 2 m12) fun t28 m29 =>
        if t28 = 0 ∨ t28 = 1 then some (t28, m29) else none
      else if x1 = 5 then (fR m12 4 2 (some o0)).bind fun t15 =>
          if t15 = none then fX4_readNumber_b75 o0 x1 m12
          else (fR m12 4 2 (some o0)).bind fun t17 =>
            (fI m12 4 10 (some o0)).bind fun t18 =>
            (kT m12 2 t17).bind fun k19 =>
            b2 (fX2_partFor k19 t18 m12) fun t20 m21 =>
            if t20 = none then fX4_readNumber_b75 o0 x1 m21
            else (kT m21 4 (some o0)).bind fun k23 =>
              b2 (fX4_refuse k23 3 m21) fun t24 m25 =>
              if t24 = 0 ∨ t24 = 1 then some (t24, m25) else none
        else fX4_readNumber_b75 o0 x1 m12
    else (kT m2 4 (some o0)).bind fun k31 =>
      b2 (fX4_refuse k31 1 m2) fun t32 m33 =>
      if t32 = 0 ∨ t32 = 1 then some (t32, m33) else none
set_option maxRecDepth 20000 in
theorem wX4_readNumber {r : Int32} {σ' : Mem} (hC : CallFix p m c cX4_readNumber 2 s args WALL RX4) (hG : GS D cy A s) (hR : 3 ≤ R.frames ∧ 108 ≤ R.locals) (Kr : KrZ p l e R s m args below meth c cX4_readNumber Q D cy ad A z r σ') (o0 : Nat) (x1 : Int32) (σ : Mem) (H : Heap) (locs : List Loc) (ls : Array Slot) (h : fX4_readNumber o0 x1 σ = some (r, σ')) (hM : MS D cy ad A s.heap z σ H locs) (hl : lv_has ls 2 [(0, va_rf (Option.map ad (some o0))), (1, .int x1)]) : W p l e R s m args below meth c H locs 0 0 Q (F0 m 0 ls []) := by
  have hx := hC.1
  have hb := hC.2.1
  unfold fX4_readNumber at h
  refine lr_aload_n hx hb dX4_readNumber_0 rfl (lv_at hl 0 rfl) ?_
  obtain ⟨k1, e_k1, h⟩ := bn h
  obtain ⟨m2, e_m2, h⟩ := bn h
  refine cs_X4_35 e_k1 hC hG hM (cX4_scan_ok e_m2) ⟨by omega, by omega⟩ hl.1 (by first | exact Nat.le_of_ble_eq_true rfl | simp [va_cat, vcI, vcL, vcR]) dX4_readNumber_1 (fun H locs hM => ?_)
  refine lr_aload_n hx hb dX4_readNumber_4 rfl (lv_at hl 0 rfl) ?_
  obtain ⟨t3, e_t3, h⟩ := bn h
  refine gf_X4_75 hC hG hM e_t3 dX4_readNumber_5 ?_
  refine lv_iconst (v := 2) hx hb dX4_readNumber_8 (by decide) ?_
  refine lv_icmp_eq (tgt := 18) hx hb dX4_readNumber_9 (by decide) (fun c4 => ?_) (fun c4 => ?_)
  · rw [if_pos c4] at h
    refine lr_aload_n hx hb dX4_readNumber_18 rfl (lv_at hl 0 rfl) ?_
    obtain ⟨t5, e_t5, h⟩ := bn h
    refine gf_X4_94 hC hG hM e_t5 dX4_readNumber_19 ?_
    refine lr_aload_n hx hb dX4_readNumber_22 rfl (lv_at hl 0 rfl) ?_
    refine lv_iload_n hx hb dX4_readNumber_23 rfl (lv_at hl 1 rfl) ?_
    obtain ⟨k6, e_k6, h⟩ := bn h
    obtain ⟨t7, m8, e_m8, h⟩ := b2_elim h
    refine cs_X4_97 e_k6 hC hG hM (cX4_leastBehind_ok e_m8) ⟨by omega, by omega⟩ hl.1 (by first | exact Nat.le_of_ble_eq_true rfl | simp [va_cat, vcI, vcL, vcR]) dX4_readNumber_24 (fun H locs hM => ?_)
    refine lv_iload_n hx hb dX4_readNumber_27 rfl (lv_at hl 1 rfl) ?_
    obtain ⟨t9, m10, e_m10, h⟩ := b2_elim h
    refine cs_X4_101 hC hG hM (cX4_greatestBehind_ok e_m10) ⟨by omega, by omega⟩ hl.1 (by first | exact Nat.le_of_ble_eq_true rfl | simp [va_cat, vcI, vcL, vcR]) dX4_readNumber_28 (fun H locs hM => ?_)
    obtain ⟨t11, m12, e_m12, h⟩ := b2_elim h
    refine cs_X4_104 hC hG hM (cX8_isWithin_ok e_m12) ⟨by omega, by omega⟩ hl.1 (by first | exact Nat.le_of_ble_eq_true rfl | simp [va_cat, vcI, vcL, vcR]) dX4_readNumber_31 (fun H locs hM => ?_)
    refine lv_if_ne (tgt := 43) hx hb dX4_readNumber_34 (by decide) (fun c13 => ?_) (fun c13 => ?_)
    · rw [if_neg c13] at h
      refine lv_iload_n hx hb dX4_readNumber_43 rfl (lv_at hl 1 rfl) ?_
      refine lv_iconst (v := 5) hx hb dX4_readNumber_44 (by decide) ?_
      refine lv_icmp_ne (tgt := 75) hx hb dX4_readNumber_45 (by decide) (fun c14 => ?_) (fun c14 => ?_)
      · rw [if_neg c14] at h
        exact wX4_readNumber_b75 hC hG hR Kr _ _ _ _ _ _ h hM (lv_sub hl [0, 1] rfl)
      · rw [if_pos c14] at h
        refine lr_aload_n hx hb dX4_readNumber_48 rfl (lv_at hl 0 rfl) ?_
        obtain ⟨t15, e_t15, h⟩ := bn h
        refine gf_X4_56 hC hG hM e_t15 dX4_readNumber_49 ?_
        refine lr_ifnull (tgt := 75) hx hb dX4_readNumber_52 (by decide) (fun c16 => ?_) (fun c16 => ?_)
        · rw [if_pos c16] at h
          exact wX4_readNumber_b75 hC hG hR Kr _ _ _ _ _ _ h hM (lv_sub hl [0, 1] rfl)
        · rw [if_neg c16] at h
          refine lr_aload_n hx hb dX4_readNumber_55 rfl (lv_at hl 0 rfl) ?_
          obtain ⟨t17, e_t17, h⟩ := bn h
          refine gf_X4_56 hC hG hM e_t17 dX4_readNumber_56 ?_
          refine lr_aload_n hx hb dX4_readNumber_59 rfl (lv_at hl 0 rfl) ?_
          obtain ⟨t18, e_t18, h⟩ := bn h
          refine gf_X4_94 hC hG hM e_t18 dX4_readNumber_60 ?_
          obtain ⟨k19, e_k19, h⟩ := bn h
          obtain ⟨t20, m21, e_m21, h⟩ := b2_elim h
          refine cs_X4_108 e_k19 hC hG hM (cX2_partFor_ok e_m21) ⟨by omega, by omega⟩ hl.1 (by first | exact Nat.le_of_ble_eq_true rfl | simp [va_cat, vcI, vcL, vcR]) dX4_readNumber_63 (fun H locs hM => ?_)
          refine lr_ifnull (tgt := 75) hx hb dX4_readNumber_66 (by decide) (fun c22 => ?_) (fun c22 => ?_)
          · rw [if_pos c22] at h
            exact wX4_readNumber_b75 hC hG hR Kr _ _ _ _ _ _ h hM (lv_sub hl [0, 1] rfl)
          · rw [if_neg c22] at h
            refine lr_aload_n hx hb dX4_readNumber_69 rfl (lv_at hl 0 rfl) ?_
            refine lv_iconst (v := 3) hx hb dX4_readNumber_70 (by decide) ?_
            obtain ⟨k23, e_k23, h⟩ := bn h
            obtain ⟨t24, m25, e_m25, h⟩ := b2_elim h
            refine cs_X4_42 e_k23 hC hG hM (cX4_refuse_ok e_m25) ⟨by omega, by omega⟩ hl.1 (by first | exact Nat.le_of_ble_eq_true rfl | simp [va_cat, vcI, vcL, vcR]) dX4_readNumber_71 (fun H locs hM => ?_)
            by_cases c26 : t24 = 0 ∨ t24 = 1
            · rw [if_pos c26] at h
              cases h
              exact Kr _ _ _ _ dX4_readNumber_74 (nar01 c26) hM
            · rw [if_neg c26] at h
              cases h
    · rw [if_pos c13] at h
      refine lr_aload_n hx hb dX4_readNumber_37 rfl (lv_at hl 0 rfl) ?_
      refine lv_iconst (v := 2) hx hb dX4_readNumber_38 (by decide) ?_
      obtain ⟨k27, e_k27, h⟩ := bn h
      obtain ⟨t28, m29, e_m29, h⟩ := b2_elim h
      refine cs_X4_42 e_k27 hC hG hM (cX4_refuse_ok e_m29) ⟨by omega, by omega⟩ hl.1 (by first | exact Nat.le_of_ble_eq_true rfl | simp [va_cat, vcI, vcL, vcR]) dX4_readNumber_39 (fun H locs hM => ?_)
      by_cases c30 : t28 = 0 ∨ t28 = 1
      · rw [if_pos c30] at h
        cases h
        exact Kr _ _ _ _ dX4_readNumber_42 (nar01 c30) hM
      · rw [if_neg c30] at h
        cases h
  · rw [if_neg c4] at h
    refine lr_aload_n hx hb dX4_readNumber_12 rfl (lv_at hl 0 rfl) ?_
    refine lv_iconst (v := 1) hx hb dX4_readNumber_13 (by decide) ?_
    obtain ⟨k31, e_k31, h⟩ := bn h
    obtain ⟨t32, m33, e_m33, h⟩ := b2_elim h
    refine cs_X4_42 e_k31 hC hG hM (cX4_refuse_ok e_m33) ⟨by omega, by omega⟩ hl.1 (by first | exact Nat.le_of_ble_eq_true rfl | simp [va_cat, vcI, vcL, vcR]) dX4_readNumber_14 (fun H locs hM => ?_)
    by_cases c34 : t32 = 0 ∨ t32 = 1
    · rw [if_pos c34] at h
      cases h
      exact Kr _ _ _ _ dX4_readNumber_17 (nar01 c34) hM
    · rw [if_neg c34] at h
      cases h
theorem cX4_readNumber_ok {l : Launch} {D : va_G} {cy : Nat → ClassId} {ad : Nat → Nat} {A : Nat → Prop} {z : Nat} {r : Int32} {σ' : Mem} {o0 : Nat} {x1 : Int32} {σ : Mem} (h : fX4_readNumber o0 x1 σ = some (r, σ')) : CtI l yX4_readNumber cX4_readNumber 2 (some .boolean) 3 [.ref (ad o0), .int x1] D cy ad A z σ r σ' :=
  enterZ (own := RX4) (by decide) rfl (Nat.le_of_ble_eq_true rfl) rfl (fun p e s m below meth c Q ls hC hG hM Kr hl => wX4_readNumber hC hG ⟨Nat.le_refl _, Nat.le_refl _⟩ Kr _ _ _ _ _ _ h hM hl)
/-! X5_fillFreed (III)V -/
def fX5_fillFreed_b80  (o0 : Nat) (x1 : Int32) (x2 : Int32) (x4 : Int64) (x6 : Int32)  (σ : Mem) : Option (Mem) :=
  (fR σ 5 2 (some o0)).bind fun t1 =>
    b2 (fX5_slot x2 x1 σ) fun t2 m3 =>
    (wJ m3 12 t1 t2 x4).bind fun m4 =>
    (fR m4 5 3 (some o0)).bind fun t5 =>
    b2 (fX5_slot x2 x1 m4) fun t6 m7 =>
    (wI m7 11 t5 t6 x6).bind fun m8 =>
    some m8
set_option maxRecDepth 20000 in
theorem wX5_fillFreed_b80 {σ' : Mem} (hC : CallFix p m c cX5_fillFreed 10 s args WALL RX5) (hG : GS D cy A s) (hR : 3 ≤ R.frames ∧ 108 ≤ R.locals) (Kr : KrV p l e R s m args below meth c cX5_fillFreed Q D cy ad A z () σ')  (o0 : Nat) (x1 : Int32) (x2 : Int32) (x4 : Int64) (x6 : Int32)  (σ : Mem) (H : Heap) (locs : List Loc) (ls : Array Slot) (h : fX5_fillFreed_b80 o0 x1 x2 x4 x6 σ = some σ') (hM : MS D cy ad A s.heap z σ H locs) (hl : lv_has ls 10 [(0, va_rf (Option.map ad (some o0))), (1, .int x1), (2, .int x2), (4, .long x4), (6, .int x6)]) : W p l e R s m args below meth c H locs 0 0 Q (F0 m 80 ls []) := by
  have hx := hC.1
  have hb := hC.2.1
  unfold fX5_fillFreed_b80 at h
  refine lr_aload_n hx hb dX5_fillFreed_80 rfl (lv_at hl 0 rfl) ?_
  obtain ⟨t1, e_t1, h⟩ := bn h
  refine gf_X5_18 hC hG hM e_t1 dX5_fillFreed_81 ?_
  refine lv_iload_n hx hb dX5_fillFreed_84 rfl (lv_at hl 2 rfl) ?_
  refine lv_iload_n hx hb dX5_fillFreed_85 rfl (lv_at hl 1 rfl) ?_
  obtain ⟨t2, m3, e_m3, h⟩ := b2_elim h
  refine cs_X5_95 hC hG hM (cX5_slot_ok e_m3) ⟨by omega, by omega⟩ hl.1 (by first | exact Nat.le_of_ble_eq_true rfl | simp [va_cat, vcI, vcL, vcR]) dX5_fillFreed_86 (fun H locs hM => ?_)
  refine lv_lload hx hb dX5_fillFreed_89 (lv_at hl 3 rfl) ?_
  obtain ⟨m4, e_m4, h⟩ := bn h
  refine g_last hx hb hG hM e_m4 dX5_fillFreed_91 (fun H locs hM => ?_)
  refine lr_aload_n hx hb dX5_fillFreed_92 rfl (lv_at hl 0 rfl) ?_
  obtain ⟨t5, e_t5, h⟩ := bn h
  refine gf_X5_21 hC hG hM e_t5 dX5_fillFreed_93 ?_
  refine lv_iload_n hx hb dX5_fillFreed_96 rfl (lv_at hl 2 rfl) ?_
  refine lv_iload_n hx hb dX5_fillFreed_97 rfl (lv_at hl 1 rfl) ?_
  obtain ⟨t6, m7, e_m7, h⟩ := b2_elim h
  refine cs_X5_95 hC hG hM (cX5_slot_ok e_m7) ⟨by omega, by omega⟩ hl.1 (by first | exact Nat.le_of_ble_eq_true rfl | simp [va_cat, vcI, vcL, vcR]) dX5_fillFreed_98 (fun H locs hM => ?_)
  refine lv_iload hx hb dX5_fillFreed_101 (lv_at hl 4 rfl) ?_
  obtain ⟨m8, e_m8, h⟩ := bn h
  refine g_iast hx hb hG hM e_m8 dX5_fillFreed_103 (fun H locs hM => ?_)
  cases h
  exact Kr _ _ _ _ dX5_fillFreed_104 hM
def fX5_fillFreed_b74 (rc11 : Nat → Int32 → Int32 → Int32 → Int64 → Int32 → Int32 → Mem → Option (Mem)) (o0 : Nat) (x1 : Int32) (x2 : Int32) (x3 : Int32) (x4 : Int64) (x6 : Int32) (x7 : Int32)  (σ : Mem) : Option (Mem) :=
  bd (x7 + 1) fun t1 =>
    rc11 o0 x1 x2 x3 x4 x6 t1 σ
set_option maxRecDepth 20000 in
theorem wX5_fillFreed_b74 {σ' : Mem} (hC : CallFix p m c cX5_fillFreed 10 s args WALL RX5) (hG : GS D cy A s) (hR : 3 ≤ R.frames ∧ 108 ≤ R.locals) (Kr : KrV p l e R s m args below meth c cX5_fillFreed Q D cy ad A z () σ') {rc11 : Nat → Int32 → Int32 → Int32 → Int64 → Int32 → Int32 → Mem → Option (Mem)} (Kc11 : ∀ (o0 : Nat) (x1 : Int32) (x2 : Int32) (x3 : Int32) (x4 : Int64) (x6 : Int32) (x7 : Int32) (τ : Mem) (H : Heap) (locs : List Loc) (ls : Array Slot), rc11 o0 x1 x2 x3 x4 x6 x7 τ = some σ' → MS D cy ad A s.heap z τ H locs → lv_has ls 10 [(0, va_rf (Option.map ad (some o0))), (1, .int x1), (2, .int x2), (3, .int x3), (4, .long x4), (6, .int x6), (7, .int x7)] → W p l e R s m args below meth c H locs 0 0 Q (F0 m 11 ls [])) (o0 : Nat) (x1 : Int32) (x2 : Int32) (x3 : Int32) (x4 : Int64) (x6 : Int32) (x7 : Int32)  (σ : Mem) (H : Heap) (locs : List Loc) (ls : Array Slot) (h : fX5_fillFreed_b74 rc11 o0 x1 x2 x3 x4 x6 x7 σ = some σ') (hM : MS D cy ad A s.heap z σ H locs) (hl : lv_has ls 10 [(0, va_rf (Option.map ad (some o0))), (1, .int x1), (2, .int x2), (3, .int x3), (4, .long x4), (6, .int x6), (7, .int x7)]) : W p l e R s m args below meth c H locs 0 0 Q (F0 m 74 ls []) := by
  have hx := hC.1
  have hb := hC.2.1
  unfold fX5_fillFreed_b74 at h
  obtain ⟨t1, e_t1, h⟩ := bd_elim h
  refine lv_iinc (v := t1) (lv' := [(7, .int t1), (0, va_rf (Option.map ad (some o0))), (1, .int x1), (2, .int x2), (3, .int x3), (4, .long x4), (6, .int x6)]) hx hb dX5_fillFreed_74 hl (k := 6) rfl (by rw [e_t1]; rfl) (by decide) (by first | rfl | simp [va_cat]) (fun ls hl => ?_)
  refine lv_goto (tgt := 11) hx hb dX5_fillFreed_77 (by decide) ?_
  exact Kc11 _ _ _ _ _ _ _ _ _ _ _ h hM (lv_sub hl [1, 2, 3, 4, 5, 6, 0] rfl)
def fX5_fillFreed_b54 (rc11 : Nat → Int32 → Int32 → Int32 → Int64 → Int32 → Int32 → Mem → Option (Mem)) (o0 : Nat) (x1 : Int32) (x2 : Int32) (x3 : Int32) (x4 : Int64) (x6 : Int32) (x7 : Int32) (y0 : Int64) (σ : Mem) : Option (Mem) :=
  b2 (fX8_isCheaper y0 x4 σ) fun t1 m2 =>
    if t1 = 0 then fX5_fillFreed_b74 rc11 o0 x1 x2 x3 x4 x6 x7 m2
    else fX5_fillFreed_b74 rc11 o0 x1 x2 x3 y0 x7 x7 m2
set_option maxRecDepth 20000 in
theorem wX5_fillFreed_b54 {σ' : Mem} (hC : CallFix p m c cX5_fillFreed 10 s args WALL RX5) (hG : GS D cy A s) (hR : 3 ≤ R.frames ∧ 108 ≤ R.locals) (Kr : KrV p l e R s m args below meth c cX5_fillFreed Q D cy ad A z () σ') {rc11 : Nat → Int32 → Int32 → Int32 → Int64 → Int32 → Int32 → Mem → Option (Mem)} (Kc11 : ∀ (o0 : Nat) (x1 : Int32) (x2 : Int32) (x3 : Int32) (x4 : Int64) (x6 : Int32) (x7 : Int32) (τ : Mem) (H : Heap) (locs : List Loc) (ls : Array Slot), rc11 o0 x1 x2 x3 x4 x6 x7 τ = some σ' → MS D cy ad A s.heap z τ H locs → lv_has ls 10 [(0, va_rf (Option.map ad (some o0))), (1, .int x1), (2, .int x2), (3, .int x3), (4, .long x4), (6, .int x6), (7, .int x7)] → W p l e R s m args below meth c H locs 0 0 Q (F0 m 11 ls [])) (o0 : Nat) (x1 : Int32) (x2 : Int32) (x3 : Int32) (x4 : Int64) (x6 : Int32) (x7 : Int32) (y0 : Int64) (σ : Mem) (H : Heap) (locs : List Loc) (ls : Array Slot) (h : fX5_fillFreed_b54 rc11 o0 x1 x2 x3 x4 x6 x7 y0 σ = some σ') (hM : MS D cy ad A s.heap z σ H locs) (hl : lv_has ls 10 [(0, va_rf (Option.map ad (some o0))), (1, .int x1), (2, .int x2), (3, .int x3), (4, .long x4), (6, .int x6), (7, .int x7)]) : W p l e R s m args below meth c H locs 0 0 Q (F0 m 54 ls [.long y0]) := by
  have hx := hC.1
  have hb := hC.2.1
  unfold fX5_fillFreed_b54 at h
  refine lv_lstore (lv' := [(8, .long y0), (0, va_rf (Option.map ad (some o0))), (1, .int x1), (2, .int x2), (3, .int x3), (4, .long x4), (6, .int x6), (7, .int x7)]) hx hb dX5_fillFreed_54 hl (by decide) (by first | rfl | simp [va_cat]) (fun ls hl => ?_)
  refine lv_lload hx hb dX5_fillFreed_56 (lv_at hl 0 rfl) ?_
  refine lv_lload hx hb dX5_fillFreed_58 (lv_at hl 5 rfl) ?_
  obtain ⟨t1, m2, e_m2, h⟩ := b2_elim h
  refine cs_X5_115 hC hG hM (cX8_isCheaper_ok e_m2) ⟨by omega, by omega⟩ hl.1 (by first | exact Nat.le_of_ble_eq_true rfl | simp [va_cat, vcI, vcL, vcR]) dX5_fillFreed_60 (fun H locs hM => ?_)
  refine lv_if_eq (tgt := 74) hx hb dX5_fillFreed_63 (by decide) (fun c3 => ?_) (fun c3 => ?_)
  · rw [if_pos c3] at h
    exact wX5_fillFreed_b74 hC hG hR Kr Kc11 _ _ _ _ _ _ _ _ _ _ _ h hM (lv_sub hl [1, 2, 3, 4, 5, 6, 7] rfl)
  · rw [if_neg c3] at h
    refine lv_lload hx hb dX5_fillFreed_66 (lv_at hl 0 rfl) ?_
    refine lv_lstore (lv' := [(4, .long y0), (8, .long y0), (0, va_rf (Option.map ad (some o0))), (1, .int x1), (2, .int x2), (3, .int x3), (6, .int x6), (7, .int x7)]) hx hb dX5_fillFreed_68 hl (by decide) (by first | rfl | simp [va_cat]) (fun ls hl => ?_)
    refine lv_iload hx hb dX5_fillFreed_70 (lv_at hl 7 rfl) ?_
    refine lv_istore (lv' := [(6, .int x7), (4, .long y0), (8, .long y0), (0, va_rf (Option.map ad (some o0))), (1, .int x1), (2, .int x2), (3, .int x3), (7, .int x7)]) hx hb dX5_fillFreed_72 hl (by decide) (by first | rfl | simp [va_cat]) (fun ls hl => ?_)
    exact wX5_fillFreed_b74 hC hG hR Kr Kc11 _ _ _ _ _ _ _ _ _ _ _ h hM (lv_sub hl [3, 4, 5, 6, 1, 0, 7] rfl)
def fX5_fillFreed_b11  : Nat → Nat → Int32 → Int32 → Int32 → Int64 → Int32 → Int32 → Mem → Option (Mem)
  | 0, _, _, _, _, _, _, _, _ => none
  | n + 1, o0, x1, x2, x3, x4, x6, x7, σ =>
    (fR σ 5 4 (some o0)).bind fun t1 =>
      (fI σ 3 1 t1).bind fun t2 =>
      if t2 ≤ x7 then fX5_fillFreed_b80 o0 x1 x2 x4 x6 σ
      else if x7 = x1 then (kT σ 5 (some o0)).bind fun k11 =>
          b2 (fX5_keptCents k11 x1 x2 σ) fun t12 m13 =>
          fX5_fillFreed_b54 (fX5_fillFreed_b11 n) o0 x1 x2 x3 x4 x6 x7 t12 m13
        else (fR σ 5 1 (some o0)).bind fun t5 =>
          b2 (fX5_slot x2 x7 σ) fun t6 m7 =>
          (aJ m7 12 t5 t6).bind fun t8 =>
          b2 (fX8_plus t8 ((x3 : Int32).toInt64) m7) fun t9 m10 =>
          fX5_fillFreed_b54 (fX5_fillFreed_b11 n) o0 x1 x2 x3 x4 x6 x7 t9 m10
set_option maxRecDepth 20000 in
theorem wX5_fillFreed_b11 {σ' : Mem} (hC : CallFix p m c cX5_fillFreed 10 s args WALL RX5) (hG : GS D cy A s) (hR : 3 ≤ R.frames ∧ 108 ≤ R.locals) (Kr : KrV p l e R s m args below meth c cX5_fillFreed Q D cy ad A z () σ')  : ∀ (n : Nat) (o0 : Nat) (x1 : Int32) (x2 : Int32) (x3 : Int32) (x4 : Int64) (x6 : Int32) (x7 : Int32)  (σ : Mem) (H : Heap) (locs : List Loc) (ls : Array Slot), fX5_fillFreed_b11 n o0 x1 x2 x3 x4 x6 x7 σ = some σ' → MS D cy ad A s.heap z σ H locs → lv_has ls 10 [(0, va_rf (Option.map ad (some o0))), (1, .int x1), (2, .int x2), (3, .int x3), (4, .long x4), (6, .int x6), (7, .int x7)] → W p l e R s m args below meth c H locs 0 0 Q (F0 m 11 ls []) := by
  have hx := hC.1
  have hb := hC.2.1
  intro n
  induction n with
  | zero =>
    intro o0 x1 x2 x3 x4 x6 x7 σ H locs ls h
    cases h
  | succ n ih =>
    intro o0 x1 x2 x3 x4 x6 x7 σ H locs ls h hM hl
    rw [fX5_fillFreed_b11] at h
    refine lv_iload hx hb dX5_fillFreed_11 (lv_at hl 6 rfl) ?_
    refine lr_aload_n hx hb dX5_fillFreed_13 rfl (lv_at hl 0 rfl) ?_
    obtain ⟨t1, e_t1, h⟩ := bn h
    refine gf_X5_25 hC hG hM e_t1 dX5_fillFreed_14 ?_
    obtain ⟨t2, e_t2, h⟩ := bn h
    refine gf_X5_55 hC hG hM e_t2 dX5_fillFreed_17 ?_
    refine lv_icmp_ge (tgt := 80) hx hb dX5_fillFreed_20 (by decide) (fun c3 => ?_) (fun c3 => ?_)
    · rw [if_pos c3] at h
      exact wX5_fillFreed_b80 hC hG hR Kr _ _ _ _ _ _ _ _ _ h hM (lv_sub hl [0, 1, 2, 4, 5] rfl)
    · rw [if_neg c3] at h
      refine lv_iload hx hb dX5_fillFreed_23 (lv_at hl 6 rfl) ?_
      refine lv_iload_n hx hb dX5_fillFreed_25 rfl (lv_at hl 1 rfl) ?_
      refine lv_icmp_ne (tgt := 38) hx hb dX5_fillFreed_26 (by decide) (fun c4 => ?_) (fun c4 => ?_)
      · rw [if_neg c4] at h
        refine lr_aload_n hx hb dX5_fillFreed_38 rfl (lv_at hl 0 rfl) ?_
        obtain ⟨t5, e_t5, h⟩ := bn h
        refine gf_X5_15 hC hG hM e_t5 dX5_fillFreed_39 ?_
        refine lv_iload_n hx hb dX5_fillFreed_42 rfl (lv_at hl 2 rfl) ?_
        refine lv_iload hx hb dX5_fillFreed_43 (lv_at hl 6 rfl) ?_
        obtain ⟨t6, m7, e_m7, h⟩ := b2_elim h
        refine cs_X5_95 hC hG hM (cX5_slot_ok e_m7) ⟨by omega, by omega⟩ hl.1 (by first | exact Nat.le_of_ble_eq_true rfl | simp [va_cat, vcI, vcL, vcR]) dX5_fillFreed_45 (fun H locs hM => ?_)
        obtain ⟨t8, e_t8, h⟩ := bn h
        refine g_lald hx hb hG hM e_t8 dX5_fillFreed_48 ?_
        refine lv_iload_n hx hb dX5_fillFreed_49 rfl (lv_at hl 3 rfl) ?_
        refine lv_i2l hx hb dX5_fillFreed_50 rfl ?_
        obtain ⟨t9, m10, e_m10, h⟩ := b2_elim h
        refine cs_X5_107 hC hG hM (cX8_plus_ok e_m10) ⟨by omega, by omega⟩ hl.1 (by first | exact Nat.le_of_ble_eq_true rfl | simp [va_cat, vcI, vcL, vcR]) dX5_fillFreed_51 (fun H locs hM => ?_)
        exact wX5_fillFreed_b54 hC hG hR Kr ih _ _ _ _ _ _ _ _ _ _ _ _ h hM (lv_sub hl [0, 1, 2, 3, 4, 5, 6] rfl)
      · rw [if_pos c4] at h
        refine lr_aload_n hx hb dX5_fillFreed_29 rfl (lv_at hl 0 rfl) ?_
        refine lv_iload_n hx hb dX5_fillFreed_30 rfl (lv_at hl 1 rfl) ?_
        refine lv_iload_n hx hb dX5_fillFreed_31 rfl (lv_at hl 2 rfl) ?_
        obtain ⟨k11, e_k11, h⟩ := bn h
        obtain ⟨t12, m13, e_m13, h⟩ := b2_elim h
        refine cs_X5_111 e_k11 hC hG hM (cX5_keptCents_ok e_m13) ⟨by omega, by omega⟩ hl.1 (by first | exact Nat.le_of_ble_eq_true rfl | simp [va_cat, vcI, vcL, vcR]) dX5_fillFreed_32 (fun H locs hM => ?_)
        refine lv_goto (tgt := 54) hx hb dX5_fillFreed_35 (by decide) ?_
        exact wX5_fillFreed_b54 hC hG hR Kr ih _ _ _ _ _ _ _ _ _ _ _ _ h hM (lv_sub hl [0, 1, 2, 3, 4, 5, 6] rfl)
def fX5_fillFreed (o0 : Nat) (x1 : Int32) (x2 : Int32) (x3 : Int32) (σ : Mem) : Option (Mem) :=
  fX5_fillFreed_b11 FU o0 x1 x2 x3 (-1) (-1) 0 σ
set_option maxRecDepth 20000 in
theorem wX5_fillFreed {σ' : Mem} (hC : CallFix p m c cX5_fillFreed 10 s args WALL RX5) (hG : GS D cy A s) (hR : 3 ≤ R.frames ∧ 108 ≤ R.locals) (Kr : KrV p l e R s m args below meth c cX5_fillFreed Q D cy ad A z () σ') (o0 : Nat) (x1 : Int32) (x2 : Int32) (x3 : Int32) (σ : Mem) (H : Heap) (locs : List Loc) (ls : Array Slot) (h : fX5_fillFreed o0 x1 x2 x3 σ = some σ') (hM : MS D cy ad A s.heap z σ H locs) (hl : lv_has ls 10 [(0, va_rf (Option.map ad (some o0))), (1, .int x1), (2, .int x2), (3, .int x3)]) : W p l e R s m args below meth c H locs 0 0 Q (F0 m 0 ls []) := by
  have hx := hC.1
  have hb := hC.2.1
  unfold fX5_fillFreed at h
  refine lv_ldc2 (v := (-1)) hx hb hC.2.2.2.1 (hC.2.2.2.2 _ wk_X5_98) dX5_fillFreed_0 ?_
  refine lv_lstore (lv' := [(4, .long (-1)), (0, va_rf (Option.map ad (some o0))), (1, .int x1), (2, .int x2), (3, .int x3)]) hx hb dX5_fillFreed_3 hl (by decide) (by first | rfl | simp [va_cat]) (fun ls hl => ?_)
  refine lv_iconst (v := (-1)) hx hb dX5_fillFreed_5 (by decide) ?_
  refine lv_istore (lv' := [(6, .int (-1)), (4, .long (-1)), (0, va_rf (Option.map ad (some o0))), (1, .int x1), (2, .int x2), (3, .int x3)]) hx hb dX5_fillFreed_6 hl (by decide) (by first | rfl | simp [va_cat]) (fun ls hl => ?_)
  refine lv_iconst (v := 0) hx hb dX5_fillFreed_8 (by decide) ?_
  refine lv_istore (lv' := [(7, .int 0), (6, .int (-1)), (4, .long (-1)), (0, va_rf (Option.map ad (some o0))), (1, .int x1), (2, .int x2), (3, .int x3)]) hx hb dX5_fillFreed_9 hl (by decide) (by first | rfl | simp [va_cat]) (fun ls hl => ?_)
  exact wX5_fillFreed_b11 hC hG hR Kr FU _ _ _ _ _ _ _ _ _ _ _ h hM (lv_sub hl [3, 4, 5, 6, 2, 1, 0] rfl)
theorem cX5_fillFreed_ok {l : Launch} {D : va_G} {cy : Nat → ClassId} {ad : Nat → Nat} {A : Nat → Prop} {z : Nat} {σ' : Mem} {o0 : Nat} {x1 : Int32} {x2 : Int32} {x3 : Int32} {σ : Mem} (h : fX5_fillFreed o0 x1 x2 x3 σ = some σ') : CtV l yX5_fillFreed cX5_fillFreed 10 none 3 [.ref (ad o0), .int x1, .int x2, .int x3] D cy ad A z σ () σ' :=
  enterV (own := RX5) (by decide) rfl (Nat.le_of_ble_eq_true rfl) rfl (fun p e s m below meth c Q ls hC hG hM Kr hl => wX5_fillFreed hC hG ⟨Nat.le_refl _, Nat.le_refl _⟩ Kr _ _ _ _ _ _ _ _ h hM hl)
/-! X5_writeRow ([I)V -/
def fX5_writeRow_b83    (σ : Mem) : Option (Mem) :=
  some σ
set_option maxRecDepth 20000 in
theorem wX5_writeRow_b83 {σ' : Mem} (hC : CallFix p m c cX5_writeRow 5 s args WALL RX5) (hG : GS D cy A s) (hR : 3 ≤ R.frames ∧ 108 ≤ R.locals) (Kr : KrV p l e R s m args below meth c cX5_writeRow Q D cy ad A z () σ')    (σ : Mem) (H : Heap) (locs : List Loc) (ls : Array Slot) (h : fX5_writeRow_b83  σ = some σ') (hM : MS D cy ad A s.heap z σ H locs) (hl : lv_has ls 5 []) : W p l e R s m args below meth c H locs 0 0 Q (F0 m 83 ls []) := by
  have hx := hC.1
  have hb := hC.2.1
  unfold fX5_writeRow_b83 at h
  cases h
  exact Kr _ _ _ _ dX5_writeRow_83 hM
def fX5_writeRow_b72 (rc22 : Nat → (Option Nat) → Int32 → Int32 → Int32 → Mem → Option (Mem)) (o0 : Nat) (x1 : Option Nat) (x2 : Int32) (x3 : Int32) (x4 : Int32)  (σ : Mem) : Option (Mem) :=
  (wI σ 11 x1 x4 x2).bind fun m1 =>
    bd (x4 + 1) fun t2 =>
    rc22 o0 x1 x2 x3 t2 m1
set_option maxRecDepth 20000 in
theorem wX5_writeRow_b72 {σ' : Mem} (hC : CallFix p m c cX5_writeRow 5 s args WALL RX5) (hG : GS D cy A s) (hR : 3 ≤ R.frames ∧ 108 ≤ R.locals) (Kr : KrV p l e R s m args below meth c cX5_writeRow Q D cy ad A z () σ') {rc22 : Nat → (Option Nat) → Int32 → Int32 → Int32 → Mem → Option (Mem)} (Kc22 : ∀ (o0 : Nat) (x1 : Option Nat) (x2 : Int32) (x3 : Int32) (x4 : Int32) (τ : Mem) (H : Heap) (locs : List Loc) (ls : Array Slot), rc22 o0 x1 x2 x3 x4 τ = some σ' → MS D cy ad A s.heap z τ H locs → lv_has ls 5 [(0, va_rf (Option.map ad (some o0))), (1, va_rf (Option.map ad x1)), (2, .int x2), (3, .int x3), (4, .int x4)] → W p l e R s m args below meth c H locs 0 0 Q (F0 m 22 ls [])) (o0 : Nat) (x1 : Option Nat) (x2 : Int32) (x3 : Int32) (x4 : Int32)  (σ : Mem) (H : Heap) (locs : List Loc) (ls : Array Slot) (h : fX5_writeRow_b72 rc22 o0 x1 x2 x3 x4 σ = some σ') (hM : MS D cy ad A s.heap z σ H locs) (hl : lv_has ls 5 [(0, va_rf (Option.map ad (some o0))), (1, va_rf (Option.map ad x1)), (2, .int x2), (3, .int x3), (4, .int x4)]) : W p l e R s m args below meth c H locs 0 0 Q (F0 m 72 ls []) := by
  have hx := hC.1
  have hb := hC.2.1
  unfold fX5_writeRow_b72 at h
  refine lr_aload_n hx hb dX5_writeRow_72 rfl (lv_at hl 1 rfl) ?_
  refine lv_iload hx hb dX5_writeRow_73 (lv_at hl 4 rfl) ?_
  refine lv_iload_n hx hb dX5_writeRow_75 rfl (lv_at hl 2 rfl) ?_
  obtain ⟨m1, e_m1, h⟩ := bn h
  refine g_iast hx hb hG hM e_m1 dX5_writeRow_76 (fun H locs hM => ?_)
  obtain ⟨t2, e_t2, h⟩ := bd_elim h
  refine lv_iinc (v := t2) (lv' := [(4, .int t2), (0, va_rf (Option.map ad (some o0))), (1, va_rf (Option.map ad x1)), (2, .int x2), (3, .int x3)]) hx hb dX5_writeRow_77 hl (k := 4) rfl (by rw [e_t2]; rfl) (by decide) (by first | rfl | simp [va_cat]) (fun ls hl => ?_)
  refine lv_goto (tgt := 22) hx hb dX5_writeRow_80 (by decide) ?_
  exact Kc22 _ _ _ _ _ _ _ _ _ h hM (lv_sub hl [1, 2, 3, 4, 0] rfl)
def fX5_writeRow_b22  : Nat → Nat → (Option Nat) → Int32 → Int32 → Int32 → Mem → Option (Mem)
  | 0, _, _, _, _, _, _ => none
  | n + 1, o0, x1, x2, x3, x4, σ =>
    (fI σ 5 6 (some o0)).bind fun t1 =>
      if t1 ≤ x4 then fX5_writeRow_b83 σ
      else (aL σ 11 x1).bind fun t3 =>
        if t3 ≤ x4 then fX5_writeRow_b83 σ
        else if x4 < x3 then fX5_writeRow_b72 (fX5_writeRow_b22 n) o0 x1 x2 x3 x4 σ
          else (kT σ 5 (some o0)).bind fun k6 =>
            b2 (fX5_choiceAt k6 x4 x2 σ) fun t7 m8 =>
            if t7 = x2 then fX5_writeRow_b72 (fX5_writeRow_b22 n) o0 x1 x2 x3 x4 m8
            else (kT m8 5 (some o0)).bind fun k10 =>
              b2 (fX5_choiceAt k10 x4 x2 m8) fun t11 m12 =>
              (kT m12 5 (some o0)).bind fun k13 =>
              b2 (fX5_termOf k13 t11 m12) fun t14 m15 =>
              bd (x4 + t14) fun t16 =>
              fX5_writeRow_b72 (fX5_writeRow_b22 n) o0 x1 t11 t16 x4 m15
set_option maxRecDepth 20000 in
theorem wX5_writeRow_b22 {σ' : Mem} (hC : CallFix p m c cX5_writeRow 5 s args WALL RX5) (hG : GS D cy A s) (hR : 3 ≤ R.frames ∧ 108 ≤ R.locals) (Kr : KrV p l e R s m args below meth c cX5_writeRow Q D cy ad A z () σ')  : ∀ (n : Nat) (o0 : Nat) (x1 : Option Nat) (x2 : Int32) (x3 : Int32) (x4 : Int32)  (σ : Mem) (H : Heap) (locs : List Loc) (ls : Array Slot), fX5_writeRow_b22 n o0 x1 x2 x3 x4 σ = some σ' → MS D cy ad A s.heap z σ H locs → lv_has ls 5 [(0, va_rf (Option.map ad (some o0))), (1, va_rf (Option.map ad x1)), (2, .int x2), (3, .int x3), (4, .int x4)] → W p l e R s m args below meth c H locs 0 0 Q (F0 m 22 ls []) := by
  have hx := hC.1
  have hb := hC.2.1
  intro n
  induction n with
  | zero =>
    intro o0 x1 x2 x3 x4 σ H locs ls h
    cases h
  | succ n ih =>
    intro o0 x1 x2 x3 x4 σ H locs ls h hM hl
    rw [fX5_writeRow_b22] at h
    refine lv_iload hx hb dX5_writeRow_22 (lv_at hl 4 rfl) ?_
    refine lr_aload_n hx hb dX5_writeRow_24 rfl (lv_at hl 0 rfl) ?_
    obtain ⟨t1, e_t1, h⟩ := bn h
    refine gf_X5_42 hC hG hM e_t1 dX5_writeRow_25 ?_
    refine lv_icmp_ge (tgt := 83) hx hb dX5_writeRow_28 (by decide) (fun c2 => ?_) (fun c2 => ?_)
    · rw [if_pos c2] at h
      exact wX5_writeRow_b83 hC hG hR Kr _ _ _ _ h hM (lv_sub hl [] rfl)
    · rw [if_neg c2] at h
      refine lv_iload hx hb dX5_writeRow_31 (lv_at hl 4 rfl) ?_
      refine lr_aload_n hx hb dX5_writeRow_33 rfl (lv_at hl 1 rfl) ?_
      obtain ⟨t3, e_t3, h⟩ := bn h
      refine g_alen (kA := 11) (by decide) hx hb hG hM e_t3 dX5_writeRow_34 ?_
      refine lv_icmp_ge (tgt := 83) hx hb dX5_writeRow_35 (by decide) (fun c4 => ?_) (fun c4 => ?_)
      · rw [if_pos c4] at h
        exact wX5_writeRow_b83 hC hG hR Kr _ _ _ _ h hM (lv_sub hl [] rfl)
      · rw [if_neg c4] at h
        refine lv_iload hx hb dX5_writeRow_38 (lv_at hl 4 rfl) ?_
        refine lv_iload_n hx hb dX5_writeRow_40 rfl (lv_at hl 3 rfl) ?_
        refine lv_icmp_lt (tgt := 72) hx hb dX5_writeRow_41 (by decide) (fun c5 => ?_) (fun c5 => ?_)
        · rw [if_pos c5] at h
          exact wX5_writeRow_b72 hC hG hR Kr ih _ _ _ _ _ _ _ _ _ h hM (lv_sub hl [0, 1, 2, 3, 4] rfl)
        · rw [if_neg c5] at h
          refine lr_aload_n hx hb dX5_writeRow_44 rfl (lv_at hl 0 rfl) ?_
          refine lv_iload hx hb dX5_writeRow_45 (lv_at hl 4 rfl) ?_
          refine lv_iload_n hx hb dX5_writeRow_47 rfl (lv_at hl 2 rfl) ?_
          obtain ⟨k6, e_k6, h⟩ := bn h
          obtain ⟨t7, m8, e_m8, h⟩ := b2_elim h
          refine cs_X5_79 e_k6 hC hG hM (cX5_choiceAt_ok e_m8) ⟨by omega, by omega⟩ hl.1 (by first | exact Nat.le_of_ble_eq_true rfl | simp [va_cat, vcI, vcL, vcR]) dX5_writeRow_48 (fun H locs hM => ?_)
          refine lv_iload_n hx hb dX5_writeRow_51 rfl (lv_at hl 2 rfl) ?_
          refine lv_icmp_eq (tgt := 72) hx hb dX5_writeRow_52 (by decide) (fun c9 => ?_) (fun c9 => ?_)
          · rw [if_pos c9] at h
            exact wX5_writeRow_b72 hC hG hR Kr ih _ _ _ _ _ _ _ _ _ h hM (lv_sub hl [0, 1, 2, 3, 4] rfl)
          · rw [if_neg c9] at h
            refine lr_aload_n hx hb dX5_writeRow_55 rfl (lv_at hl 0 rfl) ?_
            refine lv_iload hx hb dX5_writeRow_56 (lv_at hl 4 rfl) ?_
            refine lv_iload_n hx hb dX5_writeRow_58 rfl (lv_at hl 2 rfl) ?_
            obtain ⟨k10, e_k10, h⟩ := bn h
            obtain ⟨t11, m12, e_m12, h⟩ := b2_elim h
            refine cs_X5_79 e_k10 hC hG hM (cX5_choiceAt_ok e_m12) ⟨by omega, by omega⟩ hl.1 (by first | exact Nat.le_of_ble_eq_true rfl | simp [va_cat, vcI, vcL, vcR]) dX5_writeRow_59 (fun H locs hM => ?_)
            refine lv_istore_n (lv' := [(2, .int t11), (0, va_rf (Option.map ad (some o0))), (1, va_rf (Option.map ad x1)), (3, .int x3), (4, .int x4)]) hx hb dX5_writeRow_62 rfl hl (by decide) (by first | rfl | simp [va_cat]) (fun ls hl => ?_)
            refine lv_iload hx hb dX5_writeRow_63 (lv_at hl 4 rfl) ?_
            refine lr_aload_n hx hb dX5_writeRow_65 rfl (lv_at hl 1 rfl) ?_
            refine lv_iload_n hx hb dX5_writeRow_66 rfl (lv_at hl 0 rfl) ?_
            obtain ⟨k13, e_k13, h⟩ := bn h
            obtain ⟨t14, m15, e_m15, h⟩ := b2_elim h
            refine cs_X5_75 e_k13 hC hG hM (cX5_termOf_ok e_m15) ⟨by omega, by omega⟩ hl.1 (by first | exact Nat.le_of_ble_eq_true rfl | simp [va_cat, vcI, vcL, vcR]) dX5_writeRow_67 (fun H locs hM => ?_)
            refine lv_iadd hx hb dX5_writeRow_70 ?_
            obtain ⟨t16, e_t16, h⟩ := bd_elim h
            refine lr_nmi e_t16 ?_
            refine lv_istore_n (lv' := [(3, .int t16), (2, .int t11), (0, va_rf (Option.map ad (some o0))), (1, va_rf (Option.map ad x1)), (4, .int x4)]) hx hb dX5_writeRow_71 rfl hl (by decide) (by first | rfl | simp [va_cat]) (fun ls hl => ?_)
            exact wX5_writeRow_b72 hC hG hR Kr ih _ _ _ _ _ _ _ _ _ h hM (lv_sub hl [2, 3, 1, 0, 4] rfl)
def fX5_writeRow (o0 : Nat) (x1 : Option Nat) (σ : Mem) : Option (Mem) :=
  (fI σ 5 7 (some o0)).bind fun t1 =>
    (fI σ 5 5 (some o0)).bind fun t2 =>
    (kT σ 5 (some o0)).bind fun k3 =>
    b2 (fX5_termOf k3 t1 σ) fun t4 m5 =>
    bd (t2 + t4) fun t6 =>
    (fI m5 5 5 (some o0)).bind fun t7 =>
    fX5_writeRow_b22 FU o0 x1 t1 t6 t7 m5
set_option maxRecDepth 20000 in
theorem wX5_writeRow {σ' : Mem} (hC : CallFix p m c cX5_writeRow 5 s args WALL RX5) (hG : GS D cy A s) (hR : 3 ≤ R.frames ∧ 108 ≤ R.locals) (Kr : KrV p l e R s m args below meth c cX5_writeRow Q D cy ad A z () σ') (o0 : Nat) (x1 : Option Nat) (σ : Mem) (H : Heap) (locs : List Loc) (ls : Array Slot) (h : fX5_writeRow o0 x1 σ = some σ') (hM : MS D cy ad A s.heap z σ H locs) (hl : lv_has ls 5 [(0, va_rf (Option.map ad (some o0))), (1, va_rf (Option.map ad x1))]) : W p l e R s m args below meth c H locs 0 0 Q (F0 m 0 ls []) := by
  have hx := hC.1
  have hb := hC.2.1
  unfold fX5_writeRow at h
  refine lr_aload_n hx hb dX5_writeRow_0 rfl (lv_at hl 0 rfl) ?_
  obtain ⟨t1, e_t1, h⟩ := bn h
  refine gf_X5_72 hC hG hM e_t1 dX5_writeRow_1 ?_
  refine lv_istore_n (lv' := [(2, .int t1), (0, va_rf (Option.map ad (some o0))), (1, va_rf (Option.map ad x1))]) hx hb dX5_writeRow_4 rfl hl (by decide) (by first | rfl | simp [va_cat]) (fun ls hl => ?_)
  refine lr_aload_n hx hb dX5_writeRow_5 rfl (lv_at hl 1 rfl) ?_
  obtain ⟨t2, e_t2, h⟩ := bn h
  refine gf_X5_35 hC hG hM e_t2 dX5_writeRow_6 ?_
  refine lr_aload_n hx hb dX5_writeRow_9 rfl (lv_at hl 1 rfl) ?_
  refine lv_iload_n hx hb dX5_writeRow_10 rfl (lv_at hl 0 rfl) ?_
  obtain ⟨k3, e_k3, h⟩ := bn h
  obtain ⟨t4, m5, e_m5, h⟩ := b2_elim h
  refine cs_X5_75 e_k3 hC hG hM (cX5_termOf_ok e_m5) ⟨by omega, by omega⟩ hl.1 (by first | exact Nat.le_of_ble_eq_true rfl | simp [va_cat, vcI, vcL, vcR]) dX5_writeRow_11 (fun H locs hM => ?_)
  refine lv_iadd hx hb dX5_writeRow_14 ?_
  obtain ⟨t6, e_t6, h⟩ := bd_elim h
  refine lr_nmi e_t6 ?_
  refine lv_istore_n (lv' := [(3, .int t6), (2, .int t1), (0, va_rf (Option.map ad (some o0))), (1, va_rf (Option.map ad x1))]) hx hb dX5_writeRow_15 rfl hl (by decide) (by first | rfl | simp [va_cat]) (fun ls hl => ?_)
  refine lr_aload_n hx hb dX5_writeRow_16 rfl (lv_at hl 2 rfl) ?_
  obtain ⟨t7, e_t7, h⟩ := bn h
  refine gf_X5_35 hC hG hM e_t7 dX5_writeRow_17 ?_
  refine lv_istore (lv' := [(4, .int t7), (3, .int t6), (2, .int t1), (0, va_rf (Option.map ad (some o0))), (1, va_rf (Option.map ad x1))]) hx hb dX5_writeRow_20 hl (by decide) (by first | rfl | simp [va_cat]) (fun ls hl => ?_)
  exact wX5_writeRow_b22 hC hG hR Kr FU _ _ _ _ _ _ _ _ _ h hM (lv_sub hl [3, 4, 2, 1, 0] rfl)
theorem cX5_writeRow_ok {l : Launch} {D : va_G} {cy : Nat → ClassId} {ad : Nat → Nat} {A : Nat → Prop} {z : Nat} {σ' : Mem} {o0 : Nat} {x1 : Option Nat} {σ : Mem} (h : fX5_writeRow o0 x1 σ = some σ') : CtV l yX5_writeRow cX5_writeRow 5 none 3 [.ref (ad o0), va_rf (Option.map ad x1)] D cy ad A z σ () σ' :=
  enterV (own := RX5) (by decide) rfl (by simp [lg_sl, va_cat, vcI, vcL, vcR]) rfl (fun p e s m below meth c Q ls hC hG hM Kr hl => wX5_writeRow hC hG ⟨Nat.le_refl _, Nat.le_refl _⟩ Kr _ _ _ _ _ _ h hM (by simp [lv_args, va_cat, vcI, vcL, vcR] at hl; exact hl))
/-! X7_together (II)[I -/
def fX7_together_b61  (o0 : Nat)  (σ : Mem) : Option (Option Nat × Mem) :=
  (fR σ 7 1 (some o0)).bind fun t1 =>
    some (t1, σ)
set_option maxRecDepth 20000 in
theorem wX7_together_b61 {r : Option Nat} {σ' : Mem} (hC : CallFix p m c cX7_together 6 s args WALL RX7) (hG : GS D cy A s) (hR : 3 ≤ R.frames ∧ 108 ≤ R.locals) (Kr : KrR p l e R s m args below meth c cX7_together Q D cy ad A z r σ')  (o0 : Nat)  (σ : Mem) (H : Heap) (locs : List Loc) (ls : Array Slot) (h : fX7_together_b61 o0 σ = some (r, σ')) (hM : MS D cy ad A s.heap z σ H locs) (hl : lv_has ls 6 [(0, va_rf (Option.map ad (some o0)))]) : W p l e R s m args below meth c H locs 0 0 Q (F0 m 61 ls []) := by
  have hx := hC.1
  have hb := hC.2.1
  unfold fX7_together_b61 at h
  refine lr_aload_n hx hb dX7_together_61 rfl (lv_at hl 0 rfl) ?_
  obtain ⟨t1, e_t1, h⟩ := bn h
  refine gf_X7_15 hC hG hM e_t1 dX7_together_62 ?_
  obtain ⟨rfl, rfl⟩ := Prod.mk.inj (Option.some.inj h)
  exact Kr _ _ _ _ dX7_together_65 hM
def fX7_together_b47 (rc2 : Nat → Int32 → Int32 → Int32 → Mem → Option (Option Nat × Mem)) (o0 : Nat) (x1 : Int32) (x2 : Int32) (x3 : Int32) (x4 : Int32)  (σ : Mem) : Option (Option Nat × Mem) :=
  (fR σ 7 1 (some o0)).bind fun t1 =>
    (wI σ 11 t1 x3 x4).bind fun m2 =>
    bd (x3 + 1) fun t3 =>
    rc2 o0 x1 x2 t3 m2
set_option maxRecDepth 20000 in
theorem wX7_together_b47 {r : Option Nat} {σ' : Mem} (hC : CallFix p m c cX7_together 6 s args WALL RX7) (hG : GS D cy A s) (hR : 3 ≤ R.frames ∧ 108 ≤ R.locals) (Kr : KrR p l e R s m args below meth c cX7_together Q D cy ad A z r σ') {rc2 : Nat → Int32 → Int32 → Int32 → Mem → Option (Option Nat × Mem)} (Kc2 : ∀ (o0 : Nat) (x1 : Int32) (x2 : Int32) (x3 : Int32) (τ : Mem) (H : Heap) (locs : List Loc) (ls : Array Slot), rc2 o0 x1 x2 x3 τ = some (r, σ') → MS D cy ad A s.heap z τ H locs → lv_has ls 6 [(0, va_rf (Option.map ad (some o0))), (1, .int x1), (2, .int x2), (3, .int x3)] → W p l e R s m args below meth c H locs 0 0 Q (F0 m 2 ls [])) (o0 : Nat) (x1 : Int32) (x2 : Int32) (x3 : Int32) (x4 : Int32)  (σ : Mem) (H : Heap) (locs : List Loc) (ls : Array Slot) (h : fX7_together_b47 rc2 o0 x1 x2 x3 x4 σ = some (r, σ')) (hM : MS D cy ad A s.heap z σ H locs) (hl : lv_has ls 6 [(0, va_rf (Option.map ad (some o0))), (1, .int x1), (2, .int x2), (3, .int x3), (4, .int x4)]) : W p l e R s m args below meth c H locs 0 0 Q (F0 m 47 ls []) := by
  have hx := hC.1
  have hb := hC.2.1
  unfold fX7_together_b47 at h
  refine lr_aload_n hx hb dX7_together_47 rfl (lv_at hl 0 rfl) ?_
  obtain ⟨t1, e_t1, h⟩ := bn h
  refine gf_X7_15 hC hG hM e_t1 dX7_together_48 ?_
  refine lv_iload_n hx hb dX7_together_51 rfl (lv_at hl 3 rfl) ?_
  refine lv_iload hx hb dX7_together_52 (lv_at hl 4 rfl) ?_
  obtain ⟨m2, e_m2, h⟩ := bn h
  refine g_iast hx hb hG hM e_m2 dX7_together_54 (fun H locs hM => ?_)
  obtain ⟨t3, e_t3, h⟩ := bd_elim h
  refine lv_iinc (v := t3) (lv' := [(3, .int t3), (0, va_rf (Option.map ad (some o0))), (1, .int x1), (2, .int x2), (4, .int x4)]) hx hb dX7_together_55 hl (k := 3) rfl (by rw [e_t3]; rfl) (by decide) (by first | rfl | simp [va_cat]) (fun ls hl => ?_)
  refine lv_goto (tgt := 2) hx hb dX7_together_58 (by decide) ?_
  exact Kc2 _ _ _ _ _ _ _ _ h hM (lv_sub hl [1, 2, 3, 0] rfl)
def fX7_together_b41 (rc2 : Nat → Int32 → Int32 → Int32 → Mem → Option (Option Nat × Mem)) (rc13 : Nat → Int32 → Int32 → Int32 → Int32 → Int32 → Mem → Option (Option Nat × Mem)) (o0 : Nat) (x1 : Int32) (x2 : Int32) (x3 : Int32) (x4 : Int32) (x5 : Int32)  (σ : Mem) : Option (Option Nat × Mem) :=
  bd (x5 + 1) fun t1 =>
    rc13 o0 x1 x2 x3 x4 t1 σ
set_option maxRecDepth 20000 in
theorem wX7_together_b41 {r : Option Nat} {σ' : Mem} (hC : CallFix p m c cX7_together 6 s args WALL RX7) (hG : GS D cy A s) (hR : 3 ≤ R.frames ∧ 108 ≤ R.locals) (Kr : KrR p l e R s m args below meth c cX7_together Q D cy ad A z r σ') {rc2 : Nat → Int32 → Int32 → Int32 → Mem → Option (Option Nat × Mem)} (Kc2 : ∀ (o0 : Nat) (x1 : Int32) (x2 : Int32) (x3 : Int32) (τ : Mem) (H : Heap) (locs : List Loc) (ls : Array Slot), rc2 o0 x1 x2 x3 τ = some (r, σ') → MS D cy ad A s.heap z τ H locs → lv_has ls 6 [(0, va_rf (Option.map ad (some o0))), (1, .int x1), (2, .int x2), (3, .int x3)] → W p l e R s m args below meth c H locs 0 0 Q (F0 m 2 ls [])) {rc13 : Nat → Int32 → Int32 → Int32 → Int32 → Int32 → Mem → Option (Option Nat × Mem)} (Kc13 : ∀ (o0 : Nat) (x1 : Int32) (x2 : Int32) (x3 : Int32) (x4 : Int32) (x5 : Int32) (τ : Mem) (H : Heap) (locs : List Loc) (ls : Array Slot), rc13 o0 x1 x2 x3 x4 x5 τ = some (r, σ') → MS D cy ad A s.heap z τ H locs → lv_has ls 6 [(0, va_rf (Option.map ad (some o0))), (1, .int x1), (2, .int x2), (3, .int x3), (4, .int x4), (5, .int x5)] → W p l e R s m args below meth c H locs 0 0 Q (F0 m 13 ls [])) (o0 : Nat) (x1 : Int32) (x2 : Int32) (x3 : Int32) (x4 : Int32) (x5 : Int32)  (σ : Mem) (H : Heap) (locs : List Loc) (ls : Array Slot) (h : fX7_together_b41 rc2 rc13 o0 x1 x2 x3 x4 x5 σ = some (r, σ')) (hM : MS D cy ad A s.heap z σ H locs) (hl : lv_has ls 6 [(0, va_rf (Option.map ad (some o0))), (1, .int x1), (2, .int x2), (3, .int x3), (4, .int x4), (5, .int x5)]) : W p l e R s m args below meth c H locs 0 0 Q (F0 m 41 ls []) := by
  have hx := hC.1
  have hb := hC.2.1
  unfold fX7_together_b41 at h
  obtain ⟨t1, e_t1, h⟩ := bd_elim h
  refine lv_iinc (v := t1) (lv' := [(5, .int t1), (0, va_rf (Option.map ad (some o0))), (1, .int x1), (2, .int x2), (3, .int x3), (4, .int x4)]) hx hb dX7_together_41 hl (k := 5) rfl (by rw [e_t1]; rfl) (by decide) (by first | rfl | simp [va_cat]) (fun ls hl => ?_)
  refine lv_goto (tgt := 13) hx hb dX7_together_44 (by decide) ?_
  exact Kc13 _ _ _ _ _ _ _ _ _ _ h hM (lv_sub hl [1, 2, 3, 4, 5, 0] rfl)
def fX7_together_b13 (rc2 : Nat → Int32 → Int32 → Int32 → Mem → Option (Option Nat × Mem)) : Nat → Nat → Int32 → Int32 → Int32 → Int32 → Int32 → Mem → Option (Option Nat × Mem)
  | 0, _, _, _, _, _, _, _ => none
  | n + 1, o0, x1, x2, x3, x4, x5, σ =>
    if 4 ≤ x5 then fX7_together_b47 rc2 o0 x1 x2 x3 x4 σ
      else if ((x1 >>> (x5 &&& 31)) &&& 1) = 0 then fX7_together_b41 rc2 (fX7_together_b13 rc2 n) o0 x1 x2 x3 x4 x5 σ
        else (kT σ 7 (some o0)).bind fun k3 =>
          b2 (fX7_at k3 x5 x3 x2 σ) fun t4 m5 =>
          bd (x4 + t4) fun t6 =>
          fX7_together_b41 rc2 (fX7_together_b13 rc2 n) o0 x1 x2 x3 t6 x5 m5
set_option maxRecDepth 20000 in
theorem wX7_together_b13 {r : Option Nat} {σ' : Mem} (hC : CallFix p m c cX7_together 6 s args WALL RX7) (hG : GS D cy A s) (hR : 3 ≤ R.frames ∧ 108 ≤ R.locals) (Kr : KrR p l e R s m args below meth c cX7_together Q D cy ad A z r σ') {rc2 : Nat → Int32 → Int32 → Int32 → Mem → Option (Option Nat × Mem)} (Kc2 : ∀ (o0 : Nat) (x1 : Int32) (x2 : Int32) (x3 : Int32) (τ : Mem) (H : Heap) (locs : List Loc) (ls : Array Slot), rc2 o0 x1 x2 x3 τ = some (r, σ') → MS D cy ad A s.heap z τ H locs → lv_has ls 6 [(0, va_rf (Option.map ad (some o0))), (1, .int x1), (2, .int x2), (3, .int x3)] → W p l e R s m args below meth c H locs 0 0 Q (F0 m 2 ls [])) : ∀ (n : Nat) (o0 : Nat) (x1 : Int32) (x2 : Int32) (x3 : Int32) (x4 : Int32) (x5 : Int32)  (σ : Mem) (H : Heap) (locs : List Loc) (ls : Array Slot), fX7_together_b13 rc2 n o0 x1 x2 x3 x4 x5 σ = some (r, σ') → MS D cy ad A s.heap z σ H locs → lv_has ls 6 [(0, va_rf (Option.map ad (some o0))), (1, .int x1), (2, .int x2), (3, .int x3), (4, .int x4), (5, .int x5)] → W p l e R s m args below meth c H locs 0 0 Q (F0 m 13 ls []) := by
  have hx := hC.1
  have hb := hC.2.1
  intro n
  induction n with
  | zero =>
    intro o0 x1 x2 x3 x4 x5 σ H locs ls h
    cases h
  | succ n ih =>
    intro o0 x1 x2 x3 x4 x5 σ H locs ls h hM hl
    rw [fX7_together_b13] at h
    refine lv_iload hx hb dX7_together_13 (lv_at hl 5 rfl) ?_
    refine lv_iconst (v := 4) hx hb dX7_together_15 (by decide) ?_
    refine lv_icmp_ge (tgt := 47) hx hb dX7_together_16 (by decide) (fun c1 => ?_) (fun c1 => ?_)
    · rw [if_pos c1] at h
      exact wX7_together_b47 hC hG hR Kr Kc2 _ _ _ _ _ _ _ _ _ h hM (lv_sub hl [0, 1, 2, 3, 4] rfl)
    · rw [if_neg c1] at h
      refine lv_iload_n hx hb dX7_together_19 rfl (lv_at hl 1 rfl) ?_
      refine lv_iload hx hb dX7_together_20 (lv_at hl 5 rfl) ?_
      refine lv_ishr hx hb dX7_together_22 ?_
      refine lv_iconst (v := 1) hx hb dX7_together_23 (by decide) ?_
      refine lv_iand hx hb dX7_together_24 ?_
      refine lv_if_eq (tgt := 41) hx hb dX7_together_25 (by decide) (fun c2 => ?_) (fun c2 => ?_)
      · rw [if_pos c2] at h
        exact wX7_together_b41 hC hG hR Kr Kc2 ih _ _ _ _ _ _ _ _ _ _ h hM (lv_sub hl [0, 1, 2, 3, 4, 5] rfl)
      · rw [if_neg c2] at h
        refine lv_iload hx hb dX7_together_28 (lv_at hl 4 rfl) ?_
        refine lr_aload_n hx hb dX7_together_30 rfl (lv_at hl 0 rfl) ?_
        refine lv_iload hx hb dX7_together_31 (lv_at hl 5 rfl) ?_
        refine lv_iload_n hx hb dX7_together_33 rfl (lv_at hl 3 rfl) ?_
        refine lv_iload_n hx hb dX7_together_34 rfl (lv_at hl 2 rfl) ?_
        obtain ⟨k3, e_k3, h⟩ := bn h
        obtain ⟨t4, m5, e_m5, h⟩ := b2_elim h
        refine cs_X7_40 e_k3 hC hG hM (cX7_at_ok e_m5) ⟨by omega, by omega⟩ hl.1 (by first | exact Nat.le_of_ble_eq_true rfl | simp [va_cat, vcI, vcL, vcR]) dX7_together_35 (fun H locs hM => ?_)
        refine lv_iadd hx hb dX7_together_38 ?_
        obtain ⟨t6, e_t6, h⟩ := bd_elim h
        refine lr_nmi e_t6 ?_
        refine lv_istore (lv' := [(4, .int t6), (0, va_rf (Option.map ad (some o0))), (1, .int x1), (2, .int x2), (3, .int x3), (5, .int x5)]) hx hb dX7_together_39 hl (by decide) (by first | rfl | simp [va_cat]) (fun ls hl => ?_)
        exact wX7_together_b41 hC hG hR Kr Kc2 ih _ _ _ _ _ _ _ _ _ _ h hM (lv_sub hl [1, 2, 3, 4, 0, 5] rfl)
def fX7_together_b2  : Nat → Nat → Int32 → Int32 → Int32 → Mem → Option (Option Nat × Mem)
  | 0, _, _, _, _, _ => none
  | n + 1, o0, x1, x2, x3, σ =>
    if 4 ≤ x3 then fX7_together_b61 o0 σ
      else fX7_together_b13 (fX7_together_b2 n) FU o0 x1 x2 x3 0 0 σ
set_option maxRecDepth 20000 in
theorem wX7_together_b2 {r : Option Nat} {σ' : Mem} (hC : CallFix p m c cX7_together 6 s args WALL RX7) (hG : GS D cy A s) (hR : 3 ≤ R.frames ∧ 108 ≤ R.locals) (Kr : KrR p l e R s m args below meth c cX7_together Q D cy ad A z r σ')  : ∀ (n : Nat) (o0 : Nat) (x1 : Int32) (x2 : Int32) (x3 : Int32)  (σ : Mem) (H : Heap) (locs : List Loc) (ls : Array Slot), fX7_together_b2 n o0 x1 x2 x3 σ = some (r, σ') → MS D cy ad A s.heap z σ H locs → lv_has ls 6 [(0, va_rf (Option.map ad (some o0))), (1, .int x1), (2, .int x2), (3, .int x3)] → W p l e R s m args below meth c H locs 0 0 Q (F0 m 2 ls []) := by
  have hx := hC.1
  have hb := hC.2.1
  intro n
  induction n with
  | zero =>
    intro o0 x1 x2 x3 σ H locs ls h
    cases h
  | succ n ih =>
    intro o0 x1 x2 x3 σ H locs ls h hM hl
    rw [fX7_together_b2] at h
    refine lv_iload_n hx hb dX7_together_2 rfl (lv_at hl 3 rfl) ?_
    refine lv_iconst (v := 4) hx hb dX7_together_3 (by decide) ?_
    refine lv_icmp_ge (tgt := 61) hx hb dX7_together_4 (by decide) (fun c1 => ?_) (fun c1 => ?_)
    · rw [if_pos c1] at h
      exact wX7_together_b61 hC hG hR Kr _ _ _ _ _ h hM (lv_sub hl [0] rfl)
    · rw [if_neg c1] at h
      refine lv_iconst (v := 0) hx hb dX7_together_7 (by decide) ?_
      refine lv_istore (lv' := [(4, .int 0), (0, va_rf (Option.map ad (some o0))), (1, .int x1), (2, .int x2), (3, .int x3)]) hx hb dX7_together_8 hl (by decide) (by first | rfl | simp [va_cat]) (fun ls hl => ?_)
      refine lv_iconst (v := 0) hx hb dX7_together_10 (by decide) ?_
      refine lv_istore (lv' := [(5, .int 0), (4, .int 0), (0, va_rf (Option.map ad (some o0))), (1, .int x1), (2, .int x2), (3, .int x3)]) hx hb dX7_together_11 hl (by decide) (by first | rfl | simp [va_cat]) (fun ls hl => ?_)
      exact wX7_together_b13 hC hG hR Kr ih FU _ _ _ _ _ _ _ _ _ _ h hM (lv_sub hl [2, 3, 4, 5, 1, 0] rfl)
def fX7_together (o0 : Nat) (x1 : Int32) (x2 : Int32) (σ : Mem) : Option (Option Nat × Mem) :=
  fX7_together_b2 FU o0 x1 x2 0 σ
set_option maxRecDepth 20000 in
theorem wX7_together {r : Option Nat} {σ' : Mem} (hC : CallFix p m c cX7_together 6 s args WALL RX7) (hG : GS D cy A s) (hR : 3 ≤ R.frames ∧ 108 ≤ R.locals) (Kr : KrR p l e R s m args below meth c cX7_together Q D cy ad A z r σ') (o0 : Nat) (x1 : Int32) (x2 : Int32) (σ : Mem) (H : Heap) (locs : List Loc) (ls : Array Slot) (h : fX7_together o0 x1 x2 σ = some (r, σ')) (hM : MS D cy ad A s.heap z σ H locs) (hl : lv_has ls 6 [(0, va_rf (Option.map ad (some o0))), (1, .int x1), (2, .int x2)]) : W p l e R s m args below meth c H locs 0 0 Q (F0 m 0 ls []) := by
  have hx := hC.1
  have hb := hC.2.1
  unfold fX7_together at h
  refine lv_iconst (v := 0) hx hb dX7_together_0 (by decide) ?_
  refine lv_istore_n (lv' := [(3, .int 0), (0, va_rf (Option.map ad (some o0))), (1, .int x1), (2, .int x2)]) hx hb dX7_together_1 rfl hl (by decide) (by first | rfl | simp [va_cat]) (fun ls hl => ?_)
  exact wX7_together_b2 hC hG hR Kr FU _ _ _ _ _ _ _ _ h hM (lv_sub hl [1, 2, 3, 0] rfl)
theorem cX7_together_ok {l : Launch} {D : va_G} {cy : Nat → ClassId} {ad : Nat → Nat} {A : Nat → Prop} {z : Nat} {r : Option Nat} {σ' : Mem} {o0 : Nat} {x1 : Int32} {x2 : Int32} {σ : Mem} (h : fX7_together o0 x1 x2 σ = some (r, σ')) : CtR l yX7_together cX7_together 6 (some (.array .int)) 3 [.ref (ad o0), .int x1, .int x2] D cy ad A z σ r σ' :=
  enterR (own := RX7) (by decide) rfl (Nat.le_of_ble_eq_true rfl) (rtt := (.array .int)) rfl (Or.inr ⟨_, rfl⟩) (fun p e s m below meth c Q ls hC hG hM Kr hl => wX7_together hC hG ⟨Nat.le_refl _, Nat.le_refl _⟩ Kr _ _ _ _ _ _ _ h hM hl)
/-! X8_partAbove (LTariffDesk$Part;LTariffDesk$Part;IZ)J -/
def fX8_partAbove_b124  (x7 : Int64)  (σ : Mem) : Option (Int64 × Mem) :=
  some (x7, σ)
set_option maxRecDepth 20000 in
theorem wX8_partAbove_b124 {r : Int64} {σ' : Mem} (hC : CallFix p m c cX8_partAbove 12 s args WALL RX8) (hG : GS D cy A s) (hR : 3 ≤ R.frames ∧ 108 ≤ R.locals) (Kr : KrL p l e R s m args below meth c cX8_partAbove Q D cy ad A z r σ')  (x7 : Int64)  (σ : Mem) (H : Heap) (locs : List Loc) (ls : Array Slot) (h : fX8_partAbove_b124 x7 σ = some (r, σ')) (hM : MS D cy ad A s.heap z σ H locs) (hl : lv_has ls 12 [(7, .long x7)]) : W p l e R s m args below meth c H locs 0 0 Q (F0 m 124 ls []) := by
  have hx := hC.1
  have hb := hC.2.1
  unfold fX8_partAbove_b124 at h
  refine lv_lload hx hb dX8_partAbove_124 (lv_at hl 0 rfl) ?_
  obtain ⟨rfl, rfl⟩ := Prod.mk.inj (Option.some.inj h)
  exact Kr _ _ _ _ dX8_partAbove_126 hM
def fX8_partAbove_b118 (rc40 : (Option Nat) → (Option Nat) → Int32 → Int32 → Int32 → Int64 → Int32 → Mem → Option (Int64 × Mem)) (x1 : Option Nat) (x2 : Option Nat) (x4 : Int32) (x5 : Int32) (x6 : Int32) (x7 : Int64) (x9 : Int32)  (σ : Mem) : Option (Int64 × Mem) :=
  bd (x9 + 1) fun t1 =>
    rc40 x1 x2 x4 x5 x6 x7 t1 σ
set_option maxRecDepth 20000 in
theorem wX8_partAbove_b118 {r : Int64} {σ' : Mem} (hC : CallFix p m c cX8_partAbove 12 s args WALL RX8) (hG : GS D cy A s) (hR : 3 ≤ R.frames ∧ 108 ≤ R.locals) (Kr : KrL p l e R s m args below meth c cX8_partAbove Q D cy ad A z r σ') {rc40 : (Option Nat) → (Option Nat) → Int32 → Int32 → Int32 → Int64 → Int32 → Mem → Option (Int64 × Mem)} (Kc40 : ∀ (x1 : Option Nat) (x2 : Option Nat) (x4 : Int32) (x5 : Int32) (x6 : Int32) (x7 : Int64) (x9 : Int32) (τ : Mem) (H : Heap) (locs : List Loc) (ls : Array Slot), rc40 x1 x2 x4 x5 x6 x7 x9 τ = some (r, σ') → MS D cy ad A s.heap z τ H locs → lv_has ls 12 [(1, va_rf (Option.map ad x1)), (2, va_rf (Option.map ad x2)), (4, .int x4), (5, .int x5), (6, .int x6), (7, .long x7), (9, .int x9)] → W p l e R s m args below meth c H locs 0 0 Q (F0 m 40 ls [])) (x1 : Option Nat) (x2 : Option Nat) (x4 : Int32) (x5 : Int32) (x6 : Int32) (x7 : Int64) (x9 : Int32)  (σ : Mem) (H : Heap) (locs : List Loc) (ls : Array Slot) (h : fX8_partAbove_b118 rc40 x1 x2 x4 x5 x6 x7 x9 σ = some (r, σ')) (hM : MS D cy ad A s.heap z σ H locs) (hl : lv_has ls 12 [(1, va_rf (Option.map ad x1)), (2, va_rf (Option.map ad x2)), (4, .int x4), (5, .int x5), (6, .int x6), (7, .long x7), (9, .int x9)]) : W p l e R s m args below meth c H locs 0 0 Q (F0 m 118 ls []) := by
  have hx := hC.1
  have hb := hC.2.1
  unfold fX8_partAbove_b118 at h
  obtain ⟨t1, e_t1, h⟩ := bd_elim h
  refine lv_iinc (v := t1) (lv' := [(9, .int t1), (1, va_rf (Option.map ad x1)), (2, va_rf (Option.map ad x2)), (4, .int x4), (5, .int x5), (6, .int x6), (7, .long x7)]) hx hb dX8_partAbove_118 hl (k := 6) rfl (by rw [e_t1]; rfl) (by decide) (by first | rfl | simp [va_cat]) (fun ls hl => ?_)
  refine lv_goto (tgt := 40) hx hb dX8_partAbove_121 (by decide) ?_
  exact Kc40 _ _ _ _ _ _ _ _ _ _ _ h hM (lv_sub hl [1, 2, 3, 4, 5, 6, 0] rfl)
def fX8_partAbove_b82 (rc40 : (Option Nat) → (Option Nat) → Int32 → Int32 → Int32 → Int64 → Int32 → Mem → Option (Int64 × Mem)) (x1 : Option Nat) (x2 : Option Nat) (x4 : Int32) (x5 : Int32) (x6 : Int32) (x7 : Int64) (x9 : Int32)  (σ : Mem) : Option (Int64 × Mem) :=
  (kT σ 0 x2).bind fun k1 =>
    b2 (fX0_corner k1 x9 σ) fun t2 m3 =>
    b2 (fX8_isWithin t2 x5 x6 m3) fun t4 m5 =>
    if t4 = 0 then fX8_partAbove_b118 rc40 x1 x2 x4 x5 x6 x7 x9 m5
    else b2 (fX8_differenceAt x1 x2 t2 m5) fun t7 m8 =>
      b2 (fX8_further x7 t7 x4 m8) fun t9 m10 =>
      fX8_partAbove_b118 rc40 x1 x2 x4 x5 x6 t9 x9 m10
set_option maxRecDepth 20000 in
theorem wX8_partAbove_b82 {r : Int64} {σ' : Mem} (hC : CallFix p m c cX8_partAbove 12 s args WALL RX8) (hG : GS D cy A s) (hR : 3 ≤ R.frames ∧ 108 ≤ R.locals) (Kr : KrL p l e R s m args below meth c cX8_partAbove Q D cy ad A z r σ') {rc40 : (Option Nat) → (Option Nat) → Int32 → Int32 → Int32 → Int64 → Int32 → Mem → Option (Int64 × Mem)} (Kc40 : ∀ (x1 : Option Nat) (x2 : Option Nat) (x4 : Int32) (x5 : Int32) (x6 : Int32) (x7 : Int64) (x9 : Int32) (τ : Mem) (H : Heap) (locs : List Loc) (ls : Array Slot), rc40 x1 x2 x4 x5 x6 x7 x9 τ = some (r, σ') → MS D cy ad A s.heap z τ H locs → lv_has ls 12 [(1, va_rf (Option.map ad x1)), (2, va_rf (Option.map ad x2)), (4, .int x4), (5, .int x5), (6, .int x6), (7, .long x7), (9, .int x9)] → W p l e R s m args below meth c H locs 0 0 Q (F0 m 40 ls [])) (x1 : Option Nat) (x2 : Option Nat) (x4 : Int32) (x5 : Int32) (x6 : Int32) (x7 : Int64) (x9 : Int32)  (σ : Mem) (H : Heap) (locs : List Loc) (ls : Array Slot) (h : fX8_partAbove_b82 rc40 x1 x2 x4 x5 x6 x7 x9 σ = some (r, σ')) (hM : MS D cy ad A s.heap z σ H locs) (hl : lv_has ls 12 [(1, va_rf (Option.map ad x1)), (2, va_rf (Option.map ad x2)), (4, .int x4), (5, .int x5), (6, .int x6), (7, .long x7), (9, .int x9)]) : W p l e R s m args below meth c H locs 0 0 Q (F0 m 82 ls []) := by
  have hx := hC.1
  have hb := hC.2.1
  unfold fX8_partAbove_b82 at h
  refine lr_aload_n hx hb dX8_partAbove_82 rfl (lv_at hl 1 rfl) ?_
  refine lv_iload hx hb dX8_partAbove_83 (lv_at hl 6 rfl) ?_
  obtain ⟨k1, e_k1, h⟩ := bn h
  obtain ⟨t2, m3, e_m3, h⟩ := b2_elim h
  refine cs_X8_199 e_k1 hC hG hM (cX0_corner_ok e_m3) ⟨by omega, by omega⟩ hl.1 (by first | exact Nat.le_of_ble_eq_true rfl | simp [va_cat, vcI, vcL, vcR]) dX8_partAbove_85 (fun H locs hM => ?_)
  refine lv_istore (lv' := [(11, .int t2), (1, va_rf (Option.map ad x1)), (2, va_rf (Option.map ad x2)), (4, .int x4), (5, .int x5), (6, .int x6), (7, .long x7), (9, .int x9)]) hx hb dX8_partAbove_88 hl (by decide) (by first | rfl | simp [va_cat]) (fun ls hl => ?_)
  refine lv_iload hx hb dX8_partAbove_90 (lv_at hl 0 rfl) ?_
  refine lv_iload hx hb dX8_partAbove_92 (lv_at hl 4 rfl) ?_
  refine lv_iload hx hb dX8_partAbove_94 (lv_at hl 5 rfl) ?_
  obtain ⟨t4, m5, e_m5, h⟩ := b2_elim h
  refine cs_X8_148 hC hG hM (cX8_isWithin_ok e_m5) ⟨by omega, by omega⟩ hl.1 (by first | exact Nat.le_of_ble_eq_true rfl | simp [va_cat, vcI, vcL, vcR]) dX8_partAbove_96 (fun H locs hM => ?_)
  refine lv_if_eq (tgt := 118) hx hb dX8_partAbove_99 (by decide) (fun c6 => ?_) (fun c6 => ?_)
  · rw [if_pos c6] at h
    exact wX8_partAbove_b118 hC hG hR Kr Kc40 _ _ _ _ _ _ _ _ _ _ _ h hM (lv_sub hl [1, 2, 3, 4, 5, 6, 7] rfl)
  · rw [if_neg c6] at h
    refine lv_lload hx hb dX8_partAbove_102 (lv_at hl 6 rfl) ?_
    refine lr_aload_n hx hb dX8_partAbove_104 rfl (lv_at hl 1 rfl) ?_
    refine lr_aload_n hx hb dX8_partAbove_105 rfl (lv_at hl 2 rfl) ?_
    refine lv_iload hx hb dX8_partAbove_106 (lv_at hl 0 rfl) ?_
    obtain ⟨t7, m8, e_m8, h⟩ := b2_elim h
    refine cs_X8_191 hC hG hM (cX8_differenceAt_ok e_m8) ⟨by omega, by omega⟩ hl.1 (by first | exact Nat.le_of_ble_eq_true rfl | simp [va_cat, vcI, vcL, vcR]) dX8_partAbove_108 (fun H locs hM => ?_)
    refine lv_iload hx hb dX8_partAbove_111 (lv_at hl 3 rfl) ?_
    obtain ⟨t9, m10, e_m10, h⟩ := b2_elim h
    refine cs_X8_195 hC hG hM (cX8_further_ok e_m10) ⟨by omega, by omega⟩ hl.1 (by first | exact Nat.le_of_ble_eq_true rfl | simp [va_cat, vcI, vcL, vcR]) dX8_partAbove_113 (fun H locs hM => ?_)
    refine lv_lstore (lv' := [(7, .long t9), (11, .int t2), (1, va_rf (Option.map ad x1)), (2, va_rf (Option.map ad x2)), (4, .int x4), (5, .int x5), (6, .int x6), (9, .int x9)]) hx hb dX8_partAbove_116 hl (by decide) (by first | rfl | simp [va_cat]) (fun ls hl => ?_)
    exact wX8_partAbove_b118 hC hG hR Kr Kc40 _ _ _ _ _ _ _ _ _ _ _ h hM (lv_sub hl [2, 3, 4, 5, 6, 0, 7] rfl)
def fX8_partAbove_b40  : Nat → (Option Nat) → (Option Nat) → Int32 → Int32 → Int32 → Int64 → Int32 → Mem → Option (Int64 × Mem)
  | 0, _, _, _, _, _, _, _, _ => none
  | n + 1, x1, x2, x4, x5, x6, x7, x9, σ =>
    if 3 < x9 then fX8_partAbove_b124 x7 σ
      else (kT σ 0 x1).bind fun k2 =>
        b2 (fX0_corner k2 x9 σ) fun t3 m4 =>
        b2 (fX8_isWithin t3 x5 x6 m4) fun t5 m6 =>
        if t5 = 0 then fX8_partAbove_b82 (fX8_partAbove_b40 n) x1 x2 x4 x5 x6 x7 x9 m6
        else b2 (fX8_differenceAt x1 x2 t3 m6) fun t8 m9 =>
          b2 (fX8_further x7 t8 x4 m9) fun t10 m11 =>
          fX8_partAbove_b82 (fX8_partAbove_b40 n) x1 x2 x4 x5 x6 t10 x9 m11
set_option maxRecDepth 20000 in
theorem wX8_partAbove_b40 {r : Int64} {σ' : Mem} (hC : CallFix p m c cX8_partAbove 12 s args WALL RX8) (hG : GS D cy A s) (hR : 3 ≤ R.frames ∧ 108 ≤ R.locals) (Kr : KrL p l e R s m args below meth c cX8_partAbove Q D cy ad A z r σ')  : ∀ (n : Nat) (x1 : Option Nat) (x2 : Option Nat) (x4 : Int32) (x5 : Int32) (x6 : Int32) (x7 : Int64) (x9 : Int32)  (σ : Mem) (H : Heap) (locs : List Loc) (ls : Array Slot), fX8_partAbove_b40 n x1 x2 x4 x5 x6 x7 x9 σ = some (r, σ') → MS D cy ad A s.heap z σ H locs → lv_has ls 12 [(1, va_rf (Option.map ad x1)), (2, va_rf (Option.map ad x2)), (4, .int x4), (5, .int x5), (6, .int x6), (7, .long x7), (9, .int x9)] → W p l e R s m args below meth c H locs 0 0 Q (F0 m 40 ls []) := by
  have hx := hC.1
  have hb := hC.2.1
  intro n
  induction n with
  | zero =>
    intro x1 x2 x4 x5 x6 x7 x9 σ H locs ls h
    cases h
  | succ n ih =>
    intro x1 x2 x4 x5 x6 x7 x9 σ H locs ls h hM hl
    rw [fX8_partAbove_b40] at h
    refine lv_iload hx hb dX8_partAbove_40 (lv_at hl 6 rfl) ?_
    refine lv_iconst (v := 3) hx hb dX8_partAbove_42 (by decide) ?_
    refine lv_icmp_gt (tgt := 124) hx hb dX8_partAbove_43 (by decide) (fun c1 => ?_) (fun c1 => ?_)
    · rw [if_pos c1] at h
      exact wX8_partAbove_b124 hC hG hR Kr _ _ _ _ _ h hM (lv_sub hl [5] rfl)
    · rw [if_neg c1] at h
      refine lr_aload_n hx hb dX8_partAbove_46 rfl (lv_at hl 0 rfl) ?_
      refine lv_iload hx hb dX8_partAbove_47 (lv_at hl 6 rfl) ?_
      obtain ⟨k2, e_k2, h⟩ := bn h
      obtain ⟨t3, m4, e_m4, h⟩ := b2_elim h
      refine cs_X8_199 e_k2 hC hG hM (cX0_corner_ok e_m4) ⟨by omega, by omega⟩ hl.1 (by first | exact Nat.le_of_ble_eq_true rfl | simp [va_cat, vcI, vcL, vcR]) dX8_partAbove_49 (fun H locs hM => ?_)
      refine lv_istore (lv' := [(10, .int t3), (1, va_rf (Option.map ad x1)), (2, va_rf (Option.map ad x2)), (4, .int x4), (5, .int x5), (6, .int x6), (7, .long x7), (9, .int x9)]) hx hb dX8_partAbove_52 hl (by decide) (by first | rfl | simp [va_cat]) (fun ls hl => ?_)
      refine lv_iload hx hb dX8_partAbove_54 (lv_at hl 0 rfl) ?_
      refine lv_iload hx hb dX8_partAbove_56 (lv_at hl 4 rfl) ?_
      refine lv_iload hx hb dX8_partAbove_58 (lv_at hl 5 rfl) ?_
      obtain ⟨t5, m6, e_m6, h⟩ := b2_elim h
      refine cs_X8_148 hC hG hM (cX8_isWithin_ok e_m6) ⟨by omega, by omega⟩ hl.1 (by first | exact Nat.le_of_ble_eq_true rfl | simp [va_cat, vcI, vcL, vcR]) dX8_partAbove_60 (fun H locs hM => ?_)
      refine lv_if_eq (tgt := 82) hx hb dX8_partAbove_63 (by decide) (fun c7 => ?_) (fun c7 => ?_)
      · rw [if_pos c7] at h
        exact wX8_partAbove_b82 hC hG hR Kr ih _ _ _ _ _ _ _ _ _ _ _ h hM (lv_sub hl [1, 2, 3, 4, 5, 6, 7] rfl)
      · rw [if_neg c7] at h
        refine lv_lload hx hb dX8_partAbove_66 (lv_at hl 6 rfl) ?_
        refine lr_aload_n hx hb dX8_partAbove_68 rfl (lv_at hl 1 rfl) ?_
        refine lr_aload_n hx hb dX8_partAbove_69 rfl (lv_at hl 2 rfl) ?_
        refine lv_iload hx hb dX8_partAbove_70 (lv_at hl 0 rfl) ?_
        obtain ⟨t8, m9, e_m9, h⟩ := b2_elim h
        refine cs_X8_191 hC hG hM (cX8_differenceAt_ok e_m9) ⟨by omega, by omega⟩ hl.1 (by first | exact Nat.le_of_ble_eq_true rfl | simp [va_cat, vcI, vcL, vcR]) dX8_partAbove_72 (fun H locs hM => ?_)
        refine lv_iload hx hb dX8_partAbove_75 (lv_at hl 3 rfl) ?_
        obtain ⟨t10, m11, e_m11, h⟩ := b2_elim h
        refine cs_X8_195 hC hG hM (cX8_further_ok e_m11) ⟨by omega, by omega⟩ hl.1 (by first | exact Nat.le_of_ble_eq_true rfl | simp [va_cat, vcI, vcL, vcR]) dX8_partAbove_77 (fun H locs hM => ?_)
        refine lv_lstore (lv' := [(7, .long t10), (10, .int t3), (1, va_rf (Option.map ad x1)), (2, va_rf (Option.map ad x2)), (4, .int x4), (5, .int x5), (6, .int x6), (9, .int x9)]) hx hb dX8_partAbove_80 hl (by decide) (by first | rfl | simp [va_cat]) (fun ls hl => ?_)
        exact wX8_partAbove_b82 hC hG hR Kr ih _ _ _ _ _ _ _ _ _ _ _ h hM (lv_sub hl [2, 3, 4, 5, 6, 0, 7] rfl)
def fX8_partAbove (o0 : Nat) (x1 : Option Nat) (x2 : Option Nat) (x3 : Int32) (x4 : Int32) (σ : Mem) : Option (Int64 × Mem) :=
  (fR σ 8 5 (some o0)).bind fun t1 =>
    (aI σ 11 t1 x3).bind fun t2 =>
    (fR σ 8 6 (some o0)).bind fun t3 =>
    (aI σ 11 t3 x3).bind fun t4 =>
    b2 (fX8_differenceAt x1 x2 t2 σ) fun t5 m6 =>
    b2 (fX8_differenceAt x1 x2 t4 m6) fun t7 m8 =>
    b2 (fX8_further t5 t7 x4 m8) fun t9 m10 =>
    fX8_partAbove_b40 FU x1 x2 x4 t2 t4 t9 0 m10
set_option maxRecDepth 20000 in
theorem wX8_partAbove {r : Int64} {σ' : Mem} (hC : CallFix p m c cX8_partAbove 12 s args WALL RX8) (hG : GS D cy A s) (hR : 3 ≤ R.frames ∧ 108 ≤ R.locals) (Kr : KrL p l e R s m args below meth c cX8_partAbove Q D cy ad A z r σ') (o0 : Nat) (x1 : Option Nat) (x2 : Option Nat) (x3 : Int32) (x4 : Int32) (σ : Mem) (H : Heap) (locs : List Loc) (ls : Array Slot) (h : fX8_partAbove o0 x1 x2 x3 x4 σ = some (r, σ')) (hM : MS D cy ad A s.heap z σ H locs) (hl : lv_has ls 12 [(0, va_rf (Option.map ad (some o0))), (1, va_rf (Option.map ad x1)), (2, va_rf (Option.map ad x2)), (3, .int x3), (4, .int x4)]) : W p l e R s m args below meth c H locs 0 0 Q (F0 m 0 ls []) := by
  have hx := hC.1
  have hb := hC.2.1
  unfold fX8_partAbove at h
  refine lr_aload_n hx hb dX8_partAbove_0 rfl (lv_at hl 0 rfl) ?_
  obtain ⟨t1, e_t1, h⟩ := bn h
  refine gf_X8_46 hC hG hM e_t1 dX8_partAbove_1 ?_
  refine lv_iload_n hx hb dX8_partAbove_4 rfl (lv_at hl 3 rfl) ?_
  obtain ⟨t2, e_t2, h⟩ := bn h
  refine g_iald hx hb hG hM e_t2 dX8_partAbove_5 ?_
  refine lv_istore (lv' := [(5, .int t2), (0, va_rf (Option.map ad (some o0))), (1, va_rf (Option.map ad x1)), (2, va_rf (Option.map ad x2)), (3, .int x3), (4, .int x4)]) hx hb dX8_partAbove_6 hl (by decide) (by first | rfl | simp [va_cat]) (fun ls hl => ?_)
  refine lr_aload_n hx hb dX8_partAbove_8 rfl (lv_at hl 1 rfl) ?_
  obtain ⟨t3, e_t3, h⟩ := bn h
  refine gf_X8_50 hC hG hM e_t3 dX8_partAbove_9 ?_
  refine lv_iload_n hx hb dX8_partAbove_12 rfl (lv_at hl 4 rfl) ?_
  obtain ⟨t4, e_t4, h⟩ := bn h
  refine g_iald hx hb hG hM e_t4 dX8_partAbove_13 ?_
  refine lv_istore (lv' := [(6, .int t4), (5, .int t2), (0, va_rf (Option.map ad (some o0))), (1, va_rf (Option.map ad x1)), (2, va_rf (Option.map ad x2)), (3, .int x3), (4, .int x4)]) hx hb dX8_partAbove_14 hl (by decide) (by first | rfl | simp [va_cat]) (fun ls hl => ?_)
  refine lr_aload_n hx hb dX8_partAbove_16 rfl (lv_at hl 3 rfl) ?_
  refine lr_aload_n hx hb dX8_partAbove_17 rfl (lv_at hl 4 rfl) ?_
  refine lv_iload hx hb dX8_partAbove_18 (lv_at hl 1 rfl) ?_
  obtain ⟨t5, m6, e_m6, h⟩ := b2_elim h
  refine cs_X8_191 hC hG hM (cX8_differenceAt_ok e_m6) ⟨by omega, by omega⟩ hl.1 (by first | exact Nat.le_of_ble_eq_true rfl | simp [va_cat, vcI, vcL, vcR]) dX8_partAbove_20 (fun H locs hM => ?_)
  refine lr_aload_n hx hb dX8_partAbove_23 rfl (lv_at hl 3 rfl) ?_
  refine lr_aload_n hx hb dX8_partAbove_24 rfl (lv_at hl 4 rfl) ?_
  refine lv_iload hx hb dX8_partAbove_25 (lv_at hl 0 rfl) ?_
  obtain ⟨t7, m8, e_m8, h⟩ := b2_elim h
  refine cs_X8_191 hC hG hM (cX8_differenceAt_ok e_m8) ⟨by omega, by omega⟩ hl.1 (by first | exact Nat.le_of_ble_eq_true rfl | simp [va_cat, vcI, vcL, vcR]) dX8_partAbove_27 (fun H locs hM => ?_)
  refine lv_iload hx hb dX8_partAbove_30 (lv_at hl 6 rfl) ?_
  obtain ⟨t9, m10, e_m10, h⟩ := b2_elim h
  refine cs_X8_195 hC hG hM (cX8_further_ok e_m10) ⟨by omega, by omega⟩ hl.1 (by first | exact Nat.le_of_ble_eq_true rfl | simp [va_cat, vcI, vcL, vcR]) dX8_partAbove_32 (fun H locs hM => ?_)
  refine lv_lstore (lv' := [(7, .long t9), (6, .int t4), (5, .int t2), (0, va_rf (Option.map ad (some o0))), (1, va_rf (Option.map ad x1)), (2, va_rf (Option.map ad x2)), (3, .int x3), (4, .int x4)]) hx hb dX8_partAbove_35 hl (by decide) (by first | rfl | simp [va_cat]) (fun ls hl => ?_)
  refine lv_iconst (v := 0) hx hb dX8_partAbove_37 (by decide) ?_
  refine lv_istore (lv' := [(9, .int 0), (7, .long t9), (6, .int t4), (5, .int t2), (0, va_rf (Option.map ad (some o0))), (1, va_rf (Option.map ad x1)), (2, va_rf (Option.map ad x2)), (3, .int x3), (4, .int x4)]) hx hb dX8_partAbove_38 hl (by decide) (by first | rfl | simp [va_cat]) (fun ls hl => ?_)
  exact wX8_partAbove_b40 hC hG hR Kr FU _ _ _ _ _ _ _ _ _ _ _ h hM (lv_sub hl [5, 6, 8, 3, 2, 1, 0] rfl)
theorem cX8_partAbove_ok {l : Launch} {D : va_G} {cy : Nat → ClassId} {ad : Nat → Nat} {A : Nat → Prop} {z : Nat} {r : Int64} {σ' : Mem} {o0 : Nat} {x1 : Option Nat} {x2 : Option Nat} {x3 : Int32} {x4 : Int32} {σ : Mem} (h : fX8_partAbove o0 x1 x2 x3 x4 σ = some (r, σ')) : CtL l yX8_partAbove cX8_partAbove 12 (some .long) 3 [.ref (ad o0), va_rf (Option.map ad x1), va_rf (Option.map ad x2), .int x3, .int x4] D cy ad A z σ r σ' :=
  enterL (own := RX8) (by decide) rfl (by simp [lg_sl, va_cat, vcI, vcL, vcR]) rfl (fun p e s m below meth c Q ls hC hG hM Kr hl => wX8_partAbove hC hG ⟨Nat.le_refl _, Nat.le_refl _⟩ Kr _ _ _ _ _ _ _ _ _ h hM (by simp [lv_args, va_cat, vcI, vcL, vcR] at hl; exact hl))
/-! X8_use (III)I -/
def fX8_use (o0 : Nat) (x1 : Int32) (x2 : Int32) (x3 : Int32) (σ : Mem) : Option (Int32 × Mem) :=
  (fR σ 8 2 (some o0)).bind fun t1 =>
    (kT σ 7 t1).bind fun k2 =>
    b2 (fX7_at k2 x1 x2 x3 σ) fun t3 m4 =>
    some (t3, m4)
set_option maxRecDepth 20000 in
theorem wX8_use {r : Int32} {σ' : Mem} (hC : CallFix p m c cX8_use 4 s args WALL RX8) (hG : GS D cy A s) (hR : 3 ≤ R.frames ∧ 108 ≤ R.locals) (Kr : KrI p l e R s m args below meth c cX8_use Q D cy ad A z r σ') (o0 : Nat) (x1 : Int32) (x2 : Int32) (x3 : Int32) (σ : Mem) (H : Heap) (locs : List Loc) (ls : Array Slot) (h : fX8_use o0 x1 x2 x3 σ = some (r, σ')) (hM : MS D cy ad A s.heap z σ H locs) (hl : lv_has ls 4 [(0, va_rf (Option.map ad (some o0))), (1, .int x1), (2, .int x2), (3, .int x3)]) : W p l e R s m args below meth c H locs 0 0 Q (F0 m 0 ls []) := by
  have hx := hC.1
  have hb := hC.2.1
  unfold fX8_use at h
  refine lr_aload_n hx hb dX8_use_0 rfl (lv_at hl 0 rfl) ?_
  obtain ⟨t1, e_t1, h⟩ := bn h
  refine gf_X8_28 hC hG hM e_t1 dX8_use_1 ?_
  refine lv_iload_n hx hb dX8_use_4 rfl (lv_at hl 1 rfl) ?_
  refine lv_iload_n hx hb dX8_use_5 rfl (lv_at hl 2 rfl) ?_
  refine lv_iload_n hx hb dX8_use_6 rfl (lv_at hl 3 rfl) ?_
  obtain ⟨k2, e_k2, h⟩ := bn h
  obtain ⟨t3, m4, e_m4, h⟩ := b2_elim h
  refine cs_X8_135 e_k2 hC hG hM (cX7_at_ok e_m4) ⟨by omega, by omega⟩ hl.1 (by first | exact Nat.le_of_ble_eq_true rfl | simp [va_cat, vcI, vcL, vcR]) dX8_use_7 (fun H locs hM => ?_)
  obtain ⟨rfl, rfl⟩ := Prod.mk.inj (Option.some.inj h)
  exact Kr _ _ _ _ dX8_use_10 hM
theorem cX8_use_ok {l : Launch} {D : va_G} {cy : Nat → ClassId} {ad : Nat → Nat} {A : Nat → Prop} {z : Nat} {r : Int32} {σ' : Mem} {o0 : Nat} {x1 : Int32} {x2 : Int32} {x3 : Int32} {σ : Mem} (h : fX8_use o0 x1 x2 x3 σ = some (r, σ')) : CtI l yX8_use cX8_use 4 (some .int) 3 [.ref (ad o0), .int x1, .int x2, .int x3] D cy ad A z σ r σ' :=
  enterI (own := RX8) (by decide) rfl (Nat.le_of_ble_eq_true rfl) rfl (fun p e s m below meth c Q ls hC hG hM Kr hl => wX8_use hC hG ⟨Nat.le_refl _, Nat.le_refl _⟩ Kr _ _ _ _ _ _ _ _ h hM hl)
/-! X8_uses (III)I -/
def fX8_uses (o0 : Nat) (x1 : Int32) (x2 : Int32) (x3 : Int32) (σ : Mem) : Option (Int32 × Mem) :=
  (fR σ 8 2 (some o0)).bind fun t1 =>
    (fR σ 8 0 (some o0)).bind fun t2 =>
    (kT σ 7 t1).bind fun k3 =>
    b2 (fX7_take k3 t2 x1 x2 x3 σ) fun t4 m5 =>
    (fR m5 8 0 (some o0)).bind fun t6 =>
    (pI m5 6 1 t6 0).bind fun m7 =>
    some (t4, m7)
set_option maxRecDepth 20000 in
theorem wX8_uses {r : Int32} {σ' : Mem} (hC : CallFix p m c cX8_uses 5 s args WALL RX8) (hG : GS D cy A s) (hR : 3 ≤ R.frames ∧ 108 ≤ R.locals) (Kr : KrI p l e R s m args below meth c cX8_uses Q D cy ad A z r σ') (o0 : Nat) (x1 : Int32) (x2 : Int32) (x3 : Int32) (σ : Mem) (H : Heap) (locs : List Loc) (ls : Array Slot) (h : fX8_uses o0 x1 x2 x3 σ = some (r, σ')) (hM : MS D cy ad A s.heap z σ H locs) (hl : lv_has ls 5 [(0, va_rf (Option.map ad (some o0))), (1, .int x1), (2, .int x2), (3, .int x3)]) : W p l e R s m args below meth c H locs 0 0 Q (F0 m 0 ls []) := by
  have hx := hC.1
  have hb := hC.2.1
  unfold fX8_uses at h
  refine lr_aload_n hx hb dX8_uses_0 rfl (lv_at hl 0 rfl) ?_
  obtain ⟨t1, e_t1, h⟩ := bn h
  refine gf_X8_28 hC hG hM e_t1 dX8_uses_1 ?_
  refine lr_aload_n hx hb dX8_uses_4 rfl (lv_at hl 0 rfl) ?_
  obtain ⟨t2, e_t2, h⟩ := bn h
  refine gf_X8_10 hC hG hM e_t2 dX8_uses_5 ?_
  refine lv_iload_n hx hb dX8_uses_8 rfl (lv_at hl 1 rfl) ?_
  refine lv_iload_n hx hb dX8_uses_9 rfl (lv_at hl 2 rfl) ?_
  refine lv_iload_n hx hb dX8_uses_10 rfl (lv_at hl 3 rfl) ?_
  obtain ⟨k3, e_k3, h⟩ := bn h
  obtain ⟨t4, m5, e_m5, h⟩ := b2_elim h
  refine cs_X8_131 e_k3 hC hG hM (cX7_take_ok e_m5) ⟨by omega, by omega⟩ hl.1 (by first | exact Nat.le_of_ble_eq_true rfl | simp [va_cat, vcI, vcL, vcR]) dX8_uses_11 (fun H locs hM => ?_)
  refine lv_istore (lv' := [(4, .int t4), (0, va_rf (Option.map ad (some o0))), (1, .int x1), (2, .int x2), (3, .int x3)]) hx hb dX8_uses_14 hl (by decide) (by first | rfl | simp [va_cat]) (fun ls hl => ?_)
  refine lr_aload_n hx hb dX8_uses_16 rfl (lv_at hl 1 rfl) ?_
  obtain ⟨t6, e_t6, h⟩ := bn h
  refine gf_X8_10 hC hG hM e_t6 dX8_uses_17 ?_
  refine lv_iconst (v := 0) hx hb dX8_uses_20 (by decide) ?_
  obtain ⟨m7, e_m7, h⟩ := bn h
  refine pf_X8_66 hC hG hM e_m7 dX8_uses_21 (fun H locs hM => ?_)
  refine lv_iload hx hb dX8_uses_24 (lv_at hl 0 rfl) ?_
  obtain ⟨rfl, rfl⟩ := Prod.mk.inj (Option.some.inj h)
  exact Kr _ _ _ _ dX8_uses_26 hM
theorem cX8_uses_ok {l : Launch} {D : va_G} {cy : Nat → ClassId} {ad : Nat → Nat} {A : Nat → Prop} {z : Nat} {r : Int32} {σ' : Mem} {o0 : Nat} {x1 : Int32} {x2 : Int32} {x3 : Int32} {σ : Mem} (h : fX8_uses o0 x1 x2 x3 σ = some (r, σ')) : CtI l yX8_uses cX8_uses 5 (some .int) 3 [.ref (ad o0), .int x1, .int x2, .int x3] D cy ad A z σ r σ' :=
  enterI (own := RX8) (by decide) rfl (Nat.le_of_ble_eq_true rfl) rfl (fun p e s m below meth c Q ls hC hG hM Kr hl => wX8_uses hC hG ⟨Nat.le_refl _, Nat.le_refl _⟩ Kr _ _ _ _ _ _ _ _ h hM hl)
/-! X9_monthCost (III)J -/
def fX9_monthCost_b38  (x4 : Int64)  (σ : Mem) : Option (Int64 × Mem) :=
  some (x4, σ)
set_option maxRecDepth 20000 in
theorem wX9_monthCost_b38 {r : Int64} {σ' : Mem} (hC : CallFix p m c cX9_monthCost 7 s args WALL RX9) (hG : GS D cy A s) (hR : 3 ≤ R.frames ∧ 108 ≤ R.locals) (Kr : KrL p l e R s m args below meth c cX9_monthCost Q D cy ad A z r σ')  (x4 : Int64)  (σ : Mem) (H : Heap) (locs : List Loc) (ls : Array Slot) (h : fX9_monthCost_b38 x4 σ = some (r, σ')) (hM : MS D cy ad A s.heap z σ H locs) (hl : lv_has ls 7 [(4, .long x4)]) : W p l e R s m args below meth c H locs 0 0 Q (F0 m 38 ls []) := by
  have hx := hC.1
  have hb := hC.2.1
  unfold fX9_monthCost_b38 at h
  refine lv_lload hx hb dX9_monthCost_38 (lv_at hl 0 rfl) ?_
  obtain ⟨rfl, rfl⟩ := Prod.mk.inj (Option.some.inj h)
  exact Kr _ _ _ _ dX9_monthCost_40 hM
def fX9_monthCost_b12  : Nat → Nat → Int32 → Int32 → Int32 → Int64 → Int32 → Mem → Option (Int64 × Mem)
  | 0, _, _, _, _, _, _, _ => none
  | n + 1, o0, x1, x2, x3, x4, x6, σ =>
    if 4 ≤ x6 then fX9_monthCost_b38 x4 σ
      else (kT σ 9 (some o0)).bind fun k2 =>
        b2 (fX9_serviceCost k2 x1 x2 x6 x3 σ) fun t3 m4 =>
        bd (x4 + t3) fun t5 =>
        bd (x6 + 1) fun t6 =>
        (fX9_monthCost_b12 n) o0 x1 x2 x3 t5 t6 m4
set_option maxRecDepth 20000 in
theorem wX9_monthCost_b12 {r : Int64} {σ' : Mem} (hC : CallFix p m c cX9_monthCost 7 s args WALL RX9) (hG : GS D cy A s) (hR : 3 ≤ R.frames ∧ 108 ≤ R.locals) (Kr : KrL p l e R s m args below meth c cX9_monthCost Q D cy ad A z r σ')  : ∀ (n : Nat) (o0 : Nat) (x1 : Int32) (x2 : Int32) (x3 : Int32) (x4 : Int64) (x6 : Int32)  (σ : Mem) (H : Heap) (locs : List Loc) (ls : Array Slot), fX9_monthCost_b12 n o0 x1 x2 x3 x4 x6 σ = some (r, σ') → MS D cy ad A s.heap z σ H locs → lv_has ls 7 [(0, va_rf (Option.map ad (some o0))), (1, .int x1), (2, .int x2), (3, .int x3), (4, .long x4), (6, .int x6)] → W p l e R s m args below meth c H locs 0 0 Q (F0 m 12 ls []) := by
  have hx := hC.1
  have hb := hC.2.1
  intro n
  induction n with
  | zero =>
    intro o0 x1 x2 x3 x4 x6 σ H locs ls h
    cases h
  | succ n ih =>
    intro o0 x1 x2 x3 x4 x6 σ H locs ls h hM hl
    rw [fX9_monthCost_b12] at h
    refine lv_iload hx hb dX9_monthCost_12 (lv_at hl 5 rfl) ?_
    refine lv_iconst (v := 4) hx hb dX9_monthCost_14 (by decide) ?_
    refine lv_icmp_ge (tgt := 38) hx hb dX9_monthCost_15 (by decide) (fun c1 => ?_) (fun c1 => ?_)
    · rw [if_pos c1] at h
      exact wX9_monthCost_b38 hC hG hR Kr _ _ _ _ _ h hM (lv_sub hl [4] rfl)
    · rw [if_neg c1] at h
      refine lv_lload hx hb dX9_monthCost_18 (lv_at hl 4 rfl) ?_
      refine lr_aload_n hx hb dX9_monthCost_20 rfl (lv_at hl 0 rfl) ?_
      refine lv_iload_n hx hb dX9_monthCost_21 rfl (lv_at hl 1 rfl) ?_
      refine lv_iload_n hx hb dX9_monthCost_22 rfl (lv_at hl 2 rfl) ?_
      refine lv_iload hx hb dX9_monthCost_23 (lv_at hl 5 rfl) ?_
      refine lv_iload_n hx hb dX9_monthCost_25 rfl (lv_at hl 3 rfl) ?_
      obtain ⟨k2, e_k2, h⟩ := bn h
      obtain ⟨t3, m4, e_m4, h⟩ := b2_elim h
      refine cs_X9_242 e_k2 hC hG hM (cX9_serviceCost_ok e_m4) ⟨by omega, by omega⟩ hl.1 (by first | exact Nat.le_of_ble_eq_true rfl | simp [va_cat, vcI, vcL, vcR]) dX9_monthCost_26 (fun H locs hM => ?_)
      refine lv_ladd hx hb dX9_monthCost_29 ?_
      obtain ⟨t5, e_t5, h⟩ := bd_elim h
      refine lr_nml e_t5 ?_
      refine lv_lstore (lv' := [(4, .long t5), (0, va_rf (Option.map ad (some o0))), (1, .int x1), (2, .int x2), (3, .int x3), (6, .int x6)]) hx hb dX9_monthCost_30 hl (by decide) (by first | rfl | simp [va_cat]) (fun ls hl => ?_)
      obtain ⟨t6, e_t6, h⟩ := bd_elim h
      refine lv_iinc (v := t6) (lv' := [(6, .int t6), (4, .long t5), (0, va_rf (Option.map ad (some o0))), (1, .int x1), (2, .int x2), (3, .int x3)]) hx hb dX9_monthCost_32 hl (k := 5) rfl (by rw [e_t6]; rfl) (by decide) (by first | rfl | simp [va_cat]) (fun ls hl => ?_)
      refine lv_goto (tgt := 12) hx hb dX9_monthCost_35 (by decide) ?_
      exact ih _ _ _ _ _ _ _ _ _ _ h hM (lv_sub hl [2, 3, 4, 5, 1, 0] rfl)
def fX9_monthCost (o0 : Nat) (x1 : Int32) (x2 : Int32) (x3 : Int32) (σ : Mem) : Option (Int64 × Mem) :=
  (fR σ 9 12 (some o0)).bind fun t1 =>
    (aI σ 11 t1 x1).bind fun t2 =>
    bd ((t2 : Int32).toInt64) fun t3 =>
    fX9_monthCost_b12 FU o0 x1 x2 x3 t3 0 σ
set_option maxRecDepth 20000 in
theorem wX9_monthCost {r : Int64} {σ' : Mem} (hC : CallFix p m c cX9_monthCost 7 s args WALL RX9) (hG : GS D cy A s) (hR : 3 ≤ R.frames ∧ 108 ≤ R.locals) (Kr : KrL p l e R s m args below meth c cX9_monthCost Q D cy ad A z r σ') (o0 : Nat) (x1 : Int32) (x2 : Int32) (x3 : Int32) (σ : Mem) (H : Heap) (locs : List Loc) (ls : Array Slot) (h : fX9_monthCost o0 x1 x2 x3 σ = some (r, σ')) (hM : MS D cy ad A s.heap z σ H locs) (hl : lv_has ls 7 [(0, va_rf (Option.map ad (some o0))), (1, .int x1), (2, .int x2), (3, .int x3)]) : W p l e R s m args below meth c H locs 0 0 Q (F0 m 0 ls []) := by
  have hx := hC.1
  have hb := hC.2.1
  unfold fX9_monthCost at h
  refine lr_aload_n hx hb dX9_monthCost_0 rfl (lv_at hl 0 rfl) ?_
  obtain ⟨t1, e_t1, h⟩ := bn h
  refine gf_X9_17 hC hG hM e_t1 dX9_monthCost_1 ?_
  refine lv_iload_n hx hb dX9_monthCost_4 rfl (lv_at hl 1 rfl) ?_
  obtain ⟨t2, e_t2, h⟩ := bn h
  refine g_iald hx hb hG hM e_t2 dX9_monthCost_5 ?_
  refine lv_i2l hx hb dX9_monthCost_6 rfl ?_
  obtain ⟨t3, e_t3, h⟩ := bd_elim h
  refine lr_nml e_t3 ?_
  refine lv_lstore (lv' := [(4, .long t3), (0, va_rf (Option.map ad (some o0))), (1, .int x1), (2, .int x2), (3, .int x3)]) hx hb dX9_monthCost_7 hl (by decide) (by first | rfl | simp [va_cat]) (fun ls hl => ?_)
  refine lv_iconst (v := 0) hx hb dX9_monthCost_9 (by decide) ?_
  refine lv_istore (lv' := [(6, .int 0), (4, .long t3), (0, va_rf (Option.map ad (some o0))), (1, .int x1), (2, .int x2), (3, .int x3)]) hx hb dX9_monthCost_10 hl (by decide) (by first | rfl | simp [va_cat]) (fun ls hl => ?_)
  exact wX9_monthCost_b12 hC hG hR Kr FU _ _ _ _ _ _ _ _ _ _ h hM (lv_sub hl [2, 3, 4, 5, 1, 0] rfl)
theorem cX9_monthCost_ok {l : Launch} {D : va_G} {cy : Nat → ClassId} {ad : Nat → Nat} {A : Nat → Prop} {z : Nat} {r : Int64} {σ' : Mem} {o0 : Nat} {x1 : Int32} {x2 : Int32} {x3 : Int32} {σ : Mem} (h : fX9_monthCost o0 x1 x2 x3 σ = some (r, σ')) : CtL l yX9_monthCost cX9_monthCost 7 (some .long) 3 [.ref (ad o0), .int x1, .int x2, .int x3] D cy ad A z σ r σ' :=
  enterL (own := RX9) (by decide) rfl (Nat.le_of_ble_eq_true rfl) rfl (fun p e s m below meth c Q ls hC hG hM Kr hl => wX9_monthCost hC hG ⟨Nat.le_refl _, Nat.le_refl _⟩ Kr _ _ _ _ _ _ _ _ h hM hl)
/-! X9_readPart (I)Z -/
def fX9_readPart_b259    (σ : Mem) : Option (Int32 × Mem) :=
  some (0, σ)
set_option maxRecDepth 20000 in
theorem wX9_readPart_b259 {r : Int32} {σ' : Mem} (hC : CallFix p m c cX9_readPart 5 s args WALL RX9) (hG : GS D cy A s) (hR : 3 ≤ R.frames ∧ 108 ≤ R.locals) (Kr : KrZ p l e R s m args below meth c cX9_readPart Q D cy ad A z r σ')    (σ : Mem) (H : Heap) (locs : List Loc) (ls : Array Slot) (h : fX9_readPart_b259  σ = some (r, σ')) (hM : MS D cy ad A s.heap z σ H locs) (hl : lv_has ls 5 []) : W p l e R s m args below meth c H locs 0 0 Q (F0 m 259 ls []) := by
  have hx := hC.1
  have hb := hC.2.1
  unfold fX9_readPart_b259 at h
  refine lv_iconst (v := 0) hx hb dX9_readPart_259 (by decide) ?_
  cases h
  exact Kr _ _ _ _ dX9_readPart_260 rfl hM
def fX9_readPart_b238  (o0 : Nat) (x2 : Int32)  (σ : Mem) : Option (Int32 × Mem) :=
  (kT σ 9 (some o0)).bind fun k1 =>
    b2 (fX9_readKey k1 358472 σ) fun t2 m3 =>
    if t2 = 0 then fX9_readPart_b259 m3
    else (kT m3 9 (some o0)).bind fun k5 =>
      b2 (fX9_readNumber k5 0 9999 m3) fun t6 m7 =>
      if t6 = 0 then fX9_readPart_b259 m7
      else (fR m7 9 21 (some o0)).bind fun t9 =>
        (fI m7 9 23 (some o0)).bind fun t10 =>
        (wI m7 11 t9 x2 t10).bind fun m11 =>
        some (1, m11)
set_option maxRecDepth 20000 in
theorem wX9_readPart_b238 {r : Int32} {σ' : Mem} (hC : CallFix p m c cX9_readPart 5 s args WALL RX9) (hG : GS D cy A s) (hR : 3 ≤ R.frames ∧ 108 ≤ R.locals) (Kr : KrZ p l e R s m args below meth c cX9_readPart Q D cy ad A z r σ')  (o0 : Nat) (x2 : Int32)  (σ : Mem) (H : Heap) (locs : List Loc) (ls : Array Slot) (h : fX9_readPart_b238 o0 x2 σ = some (r, σ')) (hM : MS D cy ad A s.heap z σ H locs) (hl : lv_has ls 5 [(0, va_rf (Option.map ad (some o0))), (2, .int x2)]) : W p l e R s m args below meth c H locs 0 0 Q (F0 m 238 ls []) := by
  have hx := hC.1
  have hb := hC.2.1
  unfold fX9_readPart_b238 at h
  refine lr_aload_n hx hb dX9_readPart_238 rfl (lv_at hl 0 rfl) ?_
  refine gs_X9_159 hC hG hM dX9_readPart_239 ?_
  obtain ⟨k1, e_k1, h⟩ := bn h
  obtain ⟨t2, m3, e_m3, h⟩ := b2_elim h
  refine cs_X9_185 e_k1 hC hG hM (cX9_readKey_ok e_m3) ⟨by omega, by omega⟩ hl.1 (by first | exact Nat.le_of_ble_eq_true rfl | simp [va_cat, vcI, vcL, vcR]) dX9_readPart_242 (fun H locs hM => ?_)
  refine lv_if_eq (tgt := 259) hx hb dX9_readPart_245 (by decide) (fun c4 => ?_) (fun c4 => ?_)
  · rw [if_pos c4] at h
    exact wX9_readPart_b259 hC hG hR Kr _ _ _ _ h hM (lv_sub hl [] rfl)
  · rw [if_neg c4] at h
    refine lr_aload_n hx hb dX9_readPart_248 rfl (lv_at hl 0 rfl) ?_
    refine lv_iconst (v := 0) hx hb dX9_readPart_249 (by decide) ?_
    refine lv_sipush (v := 9999) hx hb dX9_readPart_250 (by decide) ?_
    obtain ⟨k5, e_k5, h⟩ := bn h
    obtain ⟨t6, m7, e_m7, h⟩ := b2_elim h
    refine cs_X9_181 e_k5 hC hG hM (cX9_readNumber_ok e_m7) ⟨by omega, by omega⟩ hl.1 (by first | exact Nat.le_of_ble_eq_true rfl | simp [va_cat, vcI, vcL, vcR]) dX9_readPart_253 (fun H locs hM => ?_)
    refine lv_if_ne (tgt := 261) hx hb dX9_readPart_256 (by decide) (fun c8 => ?_) (fun c8 => ?_)
    · rw [if_neg c8] at h
      refine lr_aload_n hx hb dX9_readPart_261 rfl (lv_at hl 0 rfl) ?_
      obtain ⟨t9, e_t9, h⟩ := bn h
      refine gf_X9_45 hC hG hM e_t9 dX9_readPart_262 ?_
      refine lv_iload_n hx hb dX9_readPart_265 rfl (lv_at hl 1 rfl) ?_
      refine lr_aload_n hx hb dX9_readPart_266 rfl (lv_at hl 0 rfl) ?_
      obtain ⟨t10, e_t10, h⟩ := bn h
      refine gf_X9_171 hC hG hM e_t10 dX9_readPart_267 ?_
      obtain ⟨m11, e_m11, h⟩ := bn h
      refine g_iast hx hb hG hM e_m11 dX9_readPart_270 (fun H locs hM => ?_)
      refine lv_iconst (v := 1) hx hb dX9_readPart_271 (by decide) ?_
      cases h
      exact Kr _ _ _ _ dX9_readPart_272 rfl hM
    · rw [if_pos c8] at h
      exact wX9_readPart_b259 hC hG hR Kr _ _ _ _ h hM (lv_sub hl [] rfl)
def fX9_readPart_b212 (rc118 : Nat → Int32 → Int32 → Mem → Option (Int32 × Mem))   (σ : Mem) : Option (Int32 × Mem) :=
  some (0, σ)
set_option maxRecDepth 20000 in
theorem wX9_readPart_b212 {r : Int32} {σ' : Mem} (hC : CallFix p m c cX9_readPart 5 s args WALL RX9) (hG : GS D cy A s) (hR : 3 ≤ R.frames ∧ 108 ≤ R.locals) (Kr : KrZ p l e R s m args below meth c cX9_readPart Q D cy ad A z r σ') {rc118 : Nat → Int32 → Int32 → Mem → Option (Int32 × Mem)} (Kc118 : ∀ (o0 : Nat) (x2 : Int32) (x3 : Int32) (τ : Mem) (H : Heap) (locs : List Loc) (ls : Array Slot), rc118 o0 x2 x3 τ = some (r, σ') → MS D cy ad A s.heap z τ H locs → lv_has ls 5 [(0, va_rf (Option.map ad (some o0))), (2, .int x2), (3, .int x3)] → W p l e R s m args below meth c H locs 0 0 Q (F0 m 118 ls []))   (σ : Mem) (H : Heap) (locs : List Loc) (ls : Array Slot) (h : fX9_readPart_b212 rc118  σ = some (r, σ')) (hM : MS D cy ad A s.heap z σ H locs) (hl : lv_has ls 5 []) : W p l e R s m args below meth c H locs 0 0 Q (F0 m 212 ls []) := by
  have hx := hC.1
  have hb := hC.2.1
  unfold fX9_readPart_b212 at h
  refine lv_iconst (v := 0) hx hb dX9_readPart_212 (by decide) ?_
  cases h
  exact Kr _ _ _ _ dX9_readPart_213 rfl hM
def fX9_readPart_b118  : Nat → Nat → Int32 → Int32 → Mem → Option (Int32 × Mem)
  | 0, _, _, _, _ => none
  | n + 1, o0, x2, x3, σ =>
    (kT σ 9 (some o0)).bind fun k1 =>
      b2 (fX9_isKey k1 555 σ) fun t2 m3 =>
      if t2 = 0 then fX9_readPart_b238 o0 x2 m3
      else (fR m3 9 18 (some o0)).bind fun t5 =>
        (aI m3 11 t5 x2).bind fun t6 =>
        if t6 = 3 then (kT m3 9 (some o0)).bind fun k35 =>
          b2 (fX9_bad k35 4 m3) fun t36 m37 =>
          if t36 = 0 ∨ t36 = 1 then some (t36, m37) else none
        else (kT m3 9 (some o0)).bind fun k8 =>
          (fX9_go k8 m3).bind fun m9 =>
          (kT m9 9 (some o0)).bind fun k10 =>
          b2 (fX9_readNumber k10 (x3 + 1) 20000 m9) fun t11 m12 =>
          if t11 = 0 then some (0, m12)
          else (fI m12 9 23 (some o0)).bind fun t14 =>
            (fR m12 9 18 (some o0)).bind fun t15 =>
            (aI m12 11 t15 x2).bind fun t16 =>
            bd ((3 * x2) + t16) fun t17 =>
            (fR m12 9 19 (some o0)).bind fun t18 =>
            (fI m12 9 23 (some o0)).bind fun t19 =>
            (wI m12 11 t18 t17 t19).bind fun m20 =>
            (kT m20 9 (some o0)).bind fun k21 =>
            b2 (fX9_readKey k21 47 m20) fun t22 m23 =>
            if t22 = 0 then fX9_readPart_b212 (fX9_readPart_b118 n) m23
            else (kT m23 9 (some o0)).bind fun k25 =>
              b2 (fX9_readNumber k25 0 9999 m23) fun t26 m27 =>
              if t26 = 0 then fX9_readPart_b212 (fX9_readPart_b118 n) m27
              else (fR m27 9 20 (some o0)).bind fun t29 =>
                (fI m27 9 23 (some o0)).bind fun t30 =>
                (wI m27 11 t29 t17 t30).bind fun m31 =>
                (fR m31 9 18 (some o0)).bind fun t32 =>
                (aI m31 11 t32 x2).bind fun t33 =>
                (wI m31 11 t32 x2 (t33 + 1)).bind fun m34 =>
                (fX9_readPart_b118 n) o0 x2 t14 m34
set_option maxRecDepth 20000 in
theorem wX9_readPart_b118 {r : Int32} {σ' : Mem} (hC : CallFix p m c cX9_readPart 5 s args WALL RX9) (hG : GS D cy A s) (hR : 3 ≤ R.frames ∧ 108 ≤ R.locals) (Kr : KrZ p l e R s m args below meth c cX9_readPart Q D cy ad A z r σ')  : ∀ (n : Nat) (o0 : Nat) (x2 : Int32) (x3 : Int32)  (σ : Mem) (H : Heap) (locs : List Loc) (ls : Array Slot), fX9_readPart_b118 n o0 x2 x3 σ = some (r, σ') → MS D cy ad A s.heap z σ H locs → lv_has ls 5 [(0, va_rf (Option.map ad (some o0))), (2, .int x2), (3, .int x3)] → W p l e R s m args below meth c H locs 0 0 Q (F0 m 118 ls []) := by
  have hx := hC.1
  have hb := hC.2.1
  intro n
  induction n with
  | zero =>
    intro o0 x2 x3 σ H locs ls h
    cases h
  | succ n ih =>
    intro o0 x2 x3 σ H locs ls h hM hl
    rw [fX9_readPart_b118] at h
    refine lr_aload_n hx hb dX9_readPart_118 rfl (lv_at hl 0 rfl) ?_
    refine gs_X9_153 hC hG hM dX9_readPart_119 ?_
    obtain ⟨k1, e_k1, h⟩ := bn h
    obtain ⟨t2, m3, e_m3, h⟩ := b2_elim h
    refine cs_X9_177 e_k1 hC hG hM (cX9_isKey_ok e_m3) ⟨by omega, by omega⟩ hl.1 (by first | exact Nat.le_of_ble_eq_true rfl | simp [va_cat, vcI, vcL, vcR]) dX9_readPart_122 (fun H locs hM => ?_)
    refine lv_if_eq (tgt := 238) hx hb dX9_readPart_125 (by decide) (fun c4 => ?_) (fun c4 => ?_)
    · rw [if_pos c4] at h
      exact wX9_readPart_b238 hC hG hR Kr _ _ _ _ _ _ h hM (lv_sub hl [0, 1] rfl)
    · rw [if_neg c4] at h
      refine lr_aload_n hx hb dX9_readPart_128 rfl (lv_at hl 0 rfl) ?_
      obtain ⟨t5, e_t5, h⟩ := bn h
      refine gf_X9_36 hC hG hM e_t5 dX9_readPart_129 ?_
      refine lv_iload_n hx hb dX9_readPart_132 rfl (lv_at hl 1 rfl) ?_
      obtain ⟨t6, e_t6, h⟩ := bn h
      refine g_iald hx hb hG hM e_t6 dX9_readPart_133 ?_
      refine lv_iconst (v := 3) hx hb dX9_readPart_134 (by decide) ?_
      refine lv_icmp_ne (tgt := 144) hx hb dX9_readPart_135 (by decide) (fun c7 => ?_) (fun c7 => ?_)
      · rw [if_neg c7] at h
        refine lr_aload_n hx hb dX9_readPart_144 rfl (lv_at hl 0 rfl) ?_
        obtain ⟨k8, e_k8, h⟩ := bn h
        obtain ⟨m9, e_m9, h⟩ := bn h
        refine cs_X9_174 e_k8 hC hG hM (cX9_go_ok e_m9) ⟨by omega, by omega⟩ hl.1 (by first | exact Nat.le_of_ble_eq_true rfl | simp [va_cat, vcI, vcL, vcR]) dX9_readPart_145 (fun H locs hM => ?_)
        refine lr_aload_n hx hb dX9_readPart_148 rfl (lv_at hl 0 rfl) ?_
        refine lv_iload_n hx hb dX9_readPart_149 rfl (lv_at hl 2 rfl) ?_
        refine lv_iconst (v := 1) hx hb dX9_readPart_150 (by decide) ?_
        refine lv_iadd hx hb dX9_readPart_151 ?_
        refine lv_sipush (v := 20000) hx hb dX9_readPart_152 (by decide) ?_
        obtain ⟨k10, e_k10, h⟩ := bn h
        obtain ⟨t11, m12, e_m12, h⟩ := b2_elim h
        refine cs_X9_181 e_k10 hC hG hM (cX9_readNumber_ok e_m12) ⟨by omega, by omega⟩ hl.1 (by first | exact Nat.le_of_ble_eq_true rfl | simp [va_cat, vcI, vcL, vcR]) dX9_readPart_155 (fun H locs hM => ?_)
        refine lv_if_ne (tgt := 163) hx hb dX9_readPart_158 (by decide) (fun c13 => ?_) (fun c13 => ?_)
        · rw [if_neg c13] at h
          refine lr_aload_n hx hb dX9_readPart_163 rfl (lv_at hl 0 rfl) ?_
          obtain ⟨t14, e_t14, h⟩ := bn h
          refine gf_X9_171 hC hG hM e_t14 dX9_readPart_164 ?_
          refine lv_istore_n (lv' := [(3, .int t14), (0, va_rf (Option.map ad (some o0))), (2, .int x2)]) hx hb dX9_readPart_167 rfl hl (by decide) (by first | rfl | simp [va_cat]) (fun ls hl => ?_)
          refine lv_iconst (v := 3) hx hb dX9_readPart_168 (by decide) ?_
          refine lv_iload_n hx hb dX9_readPart_169 rfl (lv_at hl 2 rfl) ?_
          refine lv_imul hx hb dX9_readPart_170 ?_
          refine lr_aload_n hx hb dX9_readPart_171 rfl (lv_at hl 1 rfl) ?_
          obtain ⟨t15, e_t15, h⟩ := bn h
          refine gf_X9_36 hC hG hM e_t15 dX9_readPart_172 ?_
          refine lv_iload_n hx hb dX9_readPart_175 rfl (lv_at hl 2 rfl) ?_
          obtain ⟨t16, e_t16, h⟩ := bn h
          refine g_iald hx hb hG hM e_t16 dX9_readPart_176 ?_
          refine lv_iadd hx hb dX9_readPart_177 ?_
          obtain ⟨t17, e_t17, h⟩ := bd_elim h
          refine lr_nmi e_t17 ?_
          refine lv_istore (lv' := [(4, .int t17), (3, .int t14), (0, va_rf (Option.map ad (some o0))), (2, .int x2)]) hx hb dX9_readPart_178 hl (by decide) (by first | rfl | simp [va_cat]) (fun ls hl => ?_)
          refine lr_aload_n hx hb dX9_readPart_180 rfl (lv_at hl 2 rfl) ?_
          obtain ⟨t18, e_t18, h⟩ := bn h
          refine gf_X9_39 hC hG hM e_t18 dX9_readPart_181 ?_
          refine lv_iload hx hb dX9_readPart_184 (lv_at hl 0 rfl) ?_
          refine lr_aload_n hx hb dX9_readPart_186 rfl (lv_at hl 2 rfl) ?_
          obtain ⟨t19, e_t19, h⟩ := bn h
          refine gf_X9_171 hC hG hM e_t19 dX9_readPart_187 ?_
          obtain ⟨m20, e_m20, h⟩ := bn h
          refine g_iast hx hb hG hM e_m20 dX9_readPart_190 (fun H locs hM => ?_)
          refine lr_aload_n hx hb dX9_readPart_191 rfl (lv_at hl 2 rfl) ?_
          refine gs_X9_156 hC hG hM dX9_readPart_192 ?_
          obtain ⟨k21, e_k21, h⟩ := bn h
          obtain ⟨t22, m23, e_m23, h⟩ := b2_elim h
          refine cs_X9_185 e_k21 hC hG hM (cX9_readKey_ok e_m23) ⟨by omega, by omega⟩ hl.1 (by first | exact Nat.le_of_ble_eq_true rfl | simp [va_cat, vcI, vcL, vcR]) dX9_readPart_195 (fun H locs hM => ?_)
          refine lv_if_eq (tgt := 212) hx hb dX9_readPart_198 (by decide) (fun c24 => ?_) (fun c24 => ?_)
          · rw [if_pos c24] at h
            exact wX9_readPart_b212 hC hG hR Kr ih _ _ _ _ h hM (lv_sub hl [] rfl)
          · rw [if_neg c24] at h
            refine lr_aload_n hx hb dX9_readPart_201 rfl (lv_at hl 2 rfl) ?_
            refine lv_iconst (v := 0) hx hb dX9_readPart_202 (by decide) ?_
            refine lv_sipush (v := 9999) hx hb dX9_readPart_203 (by decide) ?_
            obtain ⟨k25, e_k25, h⟩ := bn h
            obtain ⟨t26, m27, e_m27, h⟩ := b2_elim h
            refine cs_X9_181 e_k25 hC hG hM (cX9_readNumber_ok e_m27) ⟨by omega, by omega⟩ hl.1 (by first | exact Nat.le_of_ble_eq_true rfl | simp [va_cat, vcI, vcL, vcR]) dX9_readPart_206 (fun H locs hM => ?_)
            refine lv_if_ne (tgt := 214) hx hb dX9_readPart_209 (by decide) (fun c28 => ?_) (fun c28 => ?_)
            · rw [if_neg c28] at h
              refine lr_aload_n hx hb dX9_readPart_214 rfl (lv_at hl 2 rfl) ?_
              obtain ⟨t29, e_t29, h⟩ := bn h
              refine gf_X9_42 hC hG hM e_t29 dX9_readPart_215 ?_
              refine lv_iload hx hb dX9_readPart_218 (lv_at hl 0 rfl) ?_
              refine lr_aload_n hx hb dX9_readPart_220 rfl (lv_at hl 2 rfl) ?_
              obtain ⟨t30, e_t30, h⟩ := bn h
              refine gf_X9_171 hC hG hM e_t30 dX9_readPart_221 ?_
              obtain ⟨m31, e_m31, h⟩ := bn h
              refine g_iast hx hb hG hM e_m31 dX9_readPart_224 (fun H locs hM => ?_)
              refine lr_aload_n hx hb dX9_readPart_225 rfl (lv_at hl 2 rfl) ?_
              obtain ⟨t32, e_t32, h⟩ := bn h
              refine gf_X9_36 hC hG hM e_t32 dX9_readPart_226 ?_
              refine lv_iload_n hx hb dX9_readPart_229 rfl (lv_at hl 3 rfl) ?_
              refine lv_dup2_11 hx hb dX9_readPart_230 rfl (va_cat _) ?_
              obtain ⟨t33, e_t33, h⟩ := bn h
              refine g_iald hx hb hG hM e_t33 dX9_readPart_231 ?_
              refine lv_iconst (v := 1) hx hb dX9_readPart_232 (by decide) ?_
              refine lv_iadd hx hb dX9_readPart_233 ?_
              obtain ⟨m34, e_m34, h⟩ := bn h
              refine g_iast hx hb hG hM e_m34 dX9_readPart_234 (fun H locs hM => ?_)
              refine lv_goto (tgt := 118) hx hb dX9_readPart_235 (by decide) ?_
              exact ih _ _ _ _ _ _ _ h hM (lv_sub hl [2, 3, 1] rfl)
            · rw [if_pos c28] at h
              exact wX9_readPart_b212 hC hG hR Kr ih _ _ _ _ h hM (lv_sub hl [] rfl)
        · rw [if_pos c13] at h
          refine lv_iconst (v := 0) hx hb dX9_readPart_161 (by decide) ?_
          cases h
          exact Kr _ _ _ _ dX9_readPart_162 rfl hM
      · rw [if_pos c7] at h
        refine lr_aload_n hx hb dX9_readPart_138 rfl (lv_at hl 0 rfl) ?_
        refine lv_iconst (v := 4) hx hb dX9_readPart_139 (by decide) ?_
        obtain ⟨k35, e_k35, h⟩ := bn h
        obtain ⟨t36, m37, e_m37, h⟩ := b2_elim h
        refine cs_X9_168 e_k35 hC hG hM (cX9_bad_ok e_m37) ⟨by omega, by omega⟩ hl.1 (by first | exact Nat.le_of_ble_eq_true rfl | simp [va_cat, vcI, vcL, vcR]) dX9_readPart_140 (fun H locs hM => ?_)
        by_cases c38 : t36 = 0 ∨ t36 = 1
        · rw [if_pos c38] at h
          cases h
          exact Kr _ _ _ _ dX9_readPart_143 (nar01 c38) hM
        · rw [if_neg c38] at h
          cases h
def fX9_readPart_b116  (o0 : Nat) (x2 : Int32)  (σ : Mem) : Option (Int32 × Mem) :=
  fX9_readPart_b118 FU o0 x2 0 σ
set_option maxRecDepth 20000 in
theorem wX9_readPart_b116 {r : Int32} {σ' : Mem} (hC : CallFix p m c cX9_readPart 5 s args WALL RX9) (hG : GS D cy A s) (hR : 3 ≤ R.frames ∧ 108 ≤ R.locals) (Kr : KrZ p l e R s m args below meth c cX9_readPart Q D cy ad A z r σ')  (o0 : Nat) (x2 : Int32)  (σ : Mem) (H : Heap) (locs : List Loc) (ls : Array Slot) (h : fX9_readPart_b116 o0 x2 σ = some (r, σ')) (hM : MS D cy ad A s.heap z σ H locs) (hl : lv_has ls 5 [(0, va_rf (Option.map ad (some o0))), (2, .int x2)]) : W p l e R s m args below meth c H locs 0 0 Q (F0 m 116 ls []) := by
  have hx := hC.1
  have hb := hC.2.1
  unfold fX9_readPart_b116 at h
  refine lv_iconst (v := 0) hx hb dX9_readPart_116 (by decide) ?_
  refine lv_istore_n (lv' := [(3, .int 0), (0, va_rf (Option.map ad (some o0))), (2, .int x2)]) hx hb dX9_readPart_117 rfl hl (by decide) (by first | rfl | simp [va_cat]) (fun ls hl => ?_)
  exact wX9_readPart_b118 hC hG hR Kr FU _ _ _ _ _ _ _ h hM (lv_sub hl [1, 2, 0] rfl)
def fX9_readPart_b38  (o0 : Nat) (x1 : Int32)  (σ : Mem) : Option (Int32 × Mem) :=
  (kT σ 9 (some o0)).bind fun k1 =>
    b2 (fX9_readNumber k1 0 3 σ) fun t2 m3 =>
    if t2 = 0 then some (0, m3)
    else (fI m3 9 23 (some o0)).bind fun t5 =>
      bd ((4 * x1) + t5) fun t6 =>
      (fR m3 9 16 (some o0)).bind fun t7 =>
      (wI m3 13 t7 t6 (vp_nar .boolean 1)).bind fun m8 =>
      (fR m8 9 17 (some o0)).bind fun t9 =>
      (wI m8 11 t9 t6 0).bind fun m10 =>
      (fR m10 9 18 (some o0)).bind fun t11 =>
      (wI m10 11 t11 t6 0).bind fun m12 =>
      (kT m12 9 (some o0)).bind fun k13 =>
      b2 (fX9_isKey k13 131360 m12) fun t14 m15 =>
      if t14 = 0 then fX9_readPart_b116 o0 t6 m15
      else (kT m15 9 (some o0)).bind fun k17 =>
        (fX9_go k17 m15).bind fun m18 =>
        (kT m18 9 (some o0)).bind fun k19 =>
        b2 (fX9_readNumber k19 0 20000 m18) fun t20 m21 =>
        if t20 = 0 then some (0, m21)
        else (fR m21 9 17 (some o0)).bind fun t23 =>
          (fI m21 9 23 (some o0)).bind fun t24 =>
          (wI m21 11 t23 t6 t24).bind fun m25 =>
          fX9_readPart_b116 o0 t6 m25
set_option maxRecDepth 20000 in
theorem wX9_readPart_b38 {r : Int32} {σ' : Mem} (hC : CallFix p m c cX9_readPart 5 s args WALL RX9) (hG : GS D cy A s) (hR : 3 ≤ R.frames ∧ 108 ≤ R.locals) (Kr : KrZ p l e R s m args below meth c cX9_readPart Q D cy ad A z r σ')  (o0 : Nat) (x1 : Int32)  (σ : Mem) (H : Heap) (locs : List Loc) (ls : Array Slot) (h : fX9_readPart_b38 o0 x1 σ = some (r, σ')) (hM : MS D cy ad A s.heap z σ H locs) (hl : lv_has ls 5 [(0, va_rf (Option.map ad (some o0))), (1, .int x1)]) : W p l e R s m args below meth c H locs 0 0 Q (F0 m 38 ls []) := by
  have hx := hC.1
  have hb := hC.2.1
  unfold fX9_readPart_b38 at h
  refine lr_aload_n hx hb dX9_readPart_38 rfl (lv_at hl 0 rfl) ?_
  refine lv_iconst (v := 0) hx hb dX9_readPart_39 (by decide) ?_
  refine lv_iconst (v := 3) hx hb dX9_readPart_40 (by decide) ?_
  obtain ⟨k1, e_k1, h⟩ := bn h
  obtain ⟨t2, m3, e_m3, h⟩ := b2_elim h
  refine cs_X9_181 e_k1 hC hG hM (cX9_readNumber_ok e_m3) ⟨by omega, by omega⟩ hl.1 (by first | exact Nat.le_of_ble_eq_true rfl | simp [va_cat, vcI, vcL, vcR]) dX9_readPart_41 (fun H locs hM => ?_)
  refine lv_if_ne (tgt := 49) hx hb dX9_readPart_44 (by decide) (fun c4 => ?_) (fun c4 => ?_)
  · rw [if_neg c4] at h
    refine lv_iconst (v := 4) hx hb dX9_readPart_49 (by decide) ?_
    refine lv_iload_n hx hb dX9_readPart_50 rfl (lv_at hl 1 rfl) ?_
    refine lv_imul hx hb dX9_readPart_51 ?_
    refine lr_aload_n hx hb dX9_readPart_52 rfl (lv_at hl 0 rfl) ?_
    obtain ⟨t5, e_t5, h⟩ := bn h
    refine gf_X9_171 hC hG hM e_t5 dX9_readPart_53 ?_
    refine lv_iadd hx hb dX9_readPart_56 ?_
    obtain ⟨t6, e_t6, h⟩ := bd_elim h
    refine lr_nmi e_t6 ?_
    refine lv_istore_n (lv' := [(2, .int t6), (0, va_rf (Option.map ad (some o0))), (1, .int x1)]) hx hb dX9_readPart_57 rfl hl (by decide) (by first | rfl | simp [va_cat]) (fun ls hl => ?_)
    refine lr_aload_n hx hb dX9_readPart_58 rfl (lv_at hl 1 rfl) ?_
    obtain ⟨t7, e_t7, h⟩ := bn h
    refine gf_X9_29 hC hG hM e_t7 dX9_readPart_59 ?_
    refine lv_iload_n hx hb dX9_readPart_62 rfl (lv_at hl 0 rfl) ?_
    refine lv_iconst (v := 1) hx hb dX9_readPart_63 (by decide) ?_
    obtain ⟨m8, e_m8, h⟩ := bn h
    refine g_zast hx hb hG hM e_m8 dX9_readPart_64 (fun H locs hM => ?_)
    refine lr_aload_n hx hb dX9_readPart_65 rfl (lv_at hl 1 rfl) ?_
    obtain ⟨t9, e_t9, h⟩ := bn h
    refine gf_X9_33 hC hG hM e_t9 dX9_readPart_66 ?_
    refine lv_iload_n hx hb dX9_readPart_69 rfl (lv_at hl 0 rfl) ?_
    refine lv_iconst (v := 0) hx hb dX9_readPart_70 (by decide) ?_
    obtain ⟨m10, e_m10, h⟩ := bn h
    refine g_iast hx hb hG hM e_m10 dX9_readPart_71 (fun H locs hM => ?_)
    refine lr_aload_n hx hb dX9_readPart_72 rfl (lv_at hl 1 rfl) ?_
    obtain ⟨t11, e_t11, h⟩ := bn h
    refine gf_X9_36 hC hG hM e_t11 dX9_readPart_73 ?_
    refine lv_iload_n hx hb dX9_readPart_76 rfl (lv_at hl 0 rfl) ?_
    refine lv_iconst (v := 0) hx hb dX9_readPart_77 (by decide) ?_
    obtain ⟨m12, e_m12, h⟩ := bn h
    refine g_iast hx hb hG hM e_m12 dX9_readPart_78 (fun H locs hM => ?_)
    refine lr_aload_n hx hb dX9_readPart_79 rfl (lv_at hl 1 rfl) ?_
    refine gs_X9_150 hC hG hM dX9_readPart_80 ?_
    obtain ⟨k13, e_k13, h⟩ := bn h
    obtain ⟨t14, m15, e_m15, h⟩ := b2_elim h
    refine cs_X9_177 e_k13 hC hG hM (cX9_isKey_ok e_m15) ⟨by omega, by omega⟩ hl.1 (by first | exact Nat.le_of_ble_eq_true rfl | simp [va_cat, vcI, vcL, vcR]) dX9_readPart_83 (fun H locs hM => ?_)
    refine lv_if_eq (tgt := 116) hx hb dX9_readPart_86 (by decide) (fun c16 => ?_) (fun c16 => ?_)
    · rw [if_pos c16] at h
      exact wX9_readPart_b116 hC hG hR Kr _ _ _ _ _ _ h hM (lv_sub hl [1, 0] rfl)
    · rw [if_neg c16] at h
      refine lr_aload_n hx hb dX9_readPart_89 rfl (lv_at hl 1 rfl) ?_
      obtain ⟨k17, e_k17, h⟩ := bn h
      obtain ⟨m18, e_m18, h⟩ := bn h
      refine cs_X9_174 e_k17 hC hG hM (cX9_go_ok e_m18) ⟨by omega, by omega⟩ hl.1 (by first | exact Nat.le_of_ble_eq_true rfl | simp [va_cat, vcI, vcL, vcR]) dX9_readPart_90 (fun H locs hM => ?_)
      refine lr_aload_n hx hb dX9_readPart_93 rfl (lv_at hl 1 rfl) ?_
      refine lv_iconst (v := 0) hx hb dX9_readPart_94 (by decide) ?_
      refine lv_sipush (v := 20000) hx hb dX9_readPart_95 (by decide) ?_
      obtain ⟨k19, e_k19, h⟩ := bn h
      obtain ⟨t20, m21, e_m21, h⟩ := b2_elim h
      refine cs_X9_181 e_k19 hC hG hM (cX9_readNumber_ok e_m21) ⟨by omega, by omega⟩ hl.1 (by first | exact Nat.le_of_ble_eq_true rfl | simp [va_cat, vcI, vcL, vcR]) dX9_readPart_98 (fun H locs hM => ?_)
      refine lv_if_ne (tgt := 106) hx hb dX9_readPart_101 (by decide) (fun c22 => ?_) (fun c22 => ?_)
      · rw [if_neg c22] at h
        refine lr_aload_n hx hb dX9_readPart_106 rfl (lv_at hl 1 rfl) ?_
        obtain ⟨t23, e_t23, h⟩ := bn h
        refine gf_X9_33 hC hG hM e_t23 dX9_readPart_107 ?_
        refine lv_iload_n hx hb dX9_readPart_110 rfl (lv_at hl 0 rfl) ?_
        refine lr_aload_n hx hb dX9_readPart_111 rfl (lv_at hl 1 rfl) ?_
        obtain ⟨t24, e_t24, h⟩ := bn h
        refine gf_X9_171 hC hG hM e_t24 dX9_readPart_112 ?_
        obtain ⟨m25, e_m25, h⟩ := bn h
        refine g_iast hx hb hG hM e_m25 dX9_readPart_115 (fun H locs hM => ?_)
        exact wX9_readPart_b116 hC hG hR Kr _ _ _ _ _ _ h hM (lv_sub hl [1, 0] rfl)
      · rw [if_pos c22] at h
        refine lv_iconst (v := 0) hx hb dX9_readPart_104 (by decide) ?_
        cases h
        exact Kr _ _ _ _ dX9_readPart_105 rfl hM
  · rw [if_pos c4] at h
    refine lv_iconst (v := 0) hx hb dX9_readPart_47 (by decide) ?_
    cases h
    exact Kr _ _ _ _ dX9_readPart_48 rfl hM
def fX9_readPart (o0 : Nat) (x1 : Int32) (σ : Mem) : Option (Int32 × Mem) :=
  (fI σ 9 6 (some o0)).bind fun t1 =>
    if t1 = 3 then (fI σ 9 7 (some o0)).bind fun t3 =>
      if 4 ≤ t3 then fX9_readPart_b38 o0 x1 σ
      else (fR σ 9 16 (some o0)).bind fun t5 =>
        (fI σ 9 7 (some o0)).bind fun t6 =>
        (aI σ 13 t5 ((4 * x1) + t6)).bind fun t7 =>
        if t7 = 0 then fX9_readPart_b38 o0 x1 σ
        else (kT σ 9 (some o0)).bind fun k9 =>
          b2 (fX9_bad k9 3 σ) fun t10 m11 =>
          if t10 = 0 ∨ t10 = 1 then some (t10, m11) else none
    else fX9_readPart_b38 o0 x1 σ
set_option maxRecDepth 20000 in
theorem wX9_readPart {r : Int32} {σ' : Mem} (hC : CallFix p m c cX9_readPart 5 s args WALL RX9) (hG : GS D cy A s) (hR : 3 ≤ R.frames ∧ 108 ≤ R.locals) (Kr : KrZ p l e R s m args below meth c cX9_readPart Q D cy ad A z r σ') (o0 : Nat) (x1 : Int32) (σ : Mem) (H : Heap) (locs : List Loc) (ls : Array Slot) (h : fX9_readPart o0 x1 σ = some (r, σ')) (hM : MS D cy ad A s.heap z σ H locs) (hl : lv_has ls 5 [(0, va_rf (Option.map ad (some o0))), (1, .int x1)]) : W p l e R s m args below meth c H locs 0 0 Q (F0 m 0 ls []) := by
  have hx := hC.1
  have hb := hC.2.1
  unfold fX9_readPart at h
  refine lr_aload_n hx hb dX9_readPart_0 rfl (lv_at hl 0 rfl) ?_
  obtain ⟨t1, e_t1, h⟩ := bn h
  refine gf_X9_107 hC hG hM e_t1 dX9_readPart_1 ?_
  refine lv_iconst (v := 3) hx hb dX9_readPart_4 (by decide) ?_
  refine lv_icmp_ne (tgt := 38) hx hb dX9_readPart_5 (by decide) (fun c2 => ?_) (fun c2 => ?_)
  · rw [if_neg c2] at h
    exact wX9_readPart_b38 hC hG hR Kr _ _ _ _ _ _ h hM (lv_sub hl [0, 1] rfl)
  · rw [if_pos c2] at h
    refine lr_aload_n hx hb dX9_readPart_8 rfl (lv_at hl 0 rfl) ?_
    obtain ⟨t3, e_t3, h⟩ := bn h
    refine gf_X9_121 hC hG hM e_t3 dX9_readPart_9 ?_
    refine lv_iconst (v := 4) hx hb dX9_readPart_12 (by decide) ?_
    refine lv_icmp_ge (tgt := 38) hx hb dX9_readPart_13 (by decide) (fun c4 => ?_) (fun c4 => ?_)
    · rw [if_pos c4] at h
      exact wX9_readPart_b38 hC hG hR Kr _ _ _ _ _ _ h hM (lv_sub hl [0, 1] rfl)
    · rw [if_neg c4] at h
      refine lr_aload_n hx hb dX9_readPart_16 rfl (lv_at hl 0 rfl) ?_
      obtain ⟨t5, e_t5, h⟩ := bn h
      refine gf_X9_29 hC hG hM e_t5 dX9_readPart_17 ?_
      refine lv_iconst (v := 4) hx hb dX9_readPart_20 (by decide) ?_
      refine lv_iload_n hx hb dX9_readPart_21 rfl (lv_at hl 1 rfl) ?_
      refine lv_imul hx hb dX9_readPart_22 ?_
      refine lr_aload_n hx hb dX9_readPart_23 rfl (lv_at hl 0 rfl) ?_
      obtain ⟨t6, e_t6, h⟩ := bn h
      refine gf_X9_121 hC hG hM e_t6 dX9_readPart_24 ?_
      refine lv_iadd hx hb dX9_readPart_27 ?_
      obtain ⟨t7, e_t7, h⟩ := bn h
      refine g_zald hx hb hG hM e_t7 dX9_readPart_28 ?_
      refine lv_if_eq (tgt := 38) hx hb dX9_readPart_29 (by decide) (fun c8 => ?_) (fun c8 => ?_)
      · rw [if_pos c8] at h
        exact wX9_readPart_b38 hC hG hR Kr _ _ _ _ _ _ h hM (lv_sub hl [0, 1] rfl)
      · rw [if_neg c8] at h
        refine lr_aload_n hx hb dX9_readPart_32 rfl (lv_at hl 0 rfl) ?_
        refine lv_iconst (v := 3) hx hb dX9_readPart_33 (by decide) ?_
        obtain ⟨k9, e_k9, h⟩ := bn h
        obtain ⟨t10, m11, e_m11, h⟩ := b2_elim h
        refine cs_X9_168 e_k9 hC hG hM (cX9_bad_ok e_m11) ⟨by omega, by omega⟩ hl.1 (by first | exact Nat.le_of_ble_eq_true rfl | simp [va_cat, vcI, vcL, vcR]) dX9_readPart_34 (fun H locs hM => ?_)
        by_cases c12 : t10 = 0 ∨ t10 = 1
        · rw [if_pos c12] at h
          cases h
          exact Kr _ _ _ _ dX9_readPart_37 (nar01 c12) hM
        · rw [if_neg c12] at h
          cases h
theorem cX9_readPart_ok {l : Launch} {D : va_G} {cy : Nat → ClassId} {ad : Nat → Nat} {A : Nat → Prop} {z : Nat} {r : Int32} {σ' : Mem} {o0 : Nat} {x1 : Int32} {σ : Mem} (h : fX9_readPart o0 x1 σ = some (r, σ')) : CtI l yX9_readPart cX9_readPart 5 (some .boolean) 3 [.ref (ad o0), .int x1] D cy ad A z σ r σ' :=
  enterZ (own := RX9) (by decide) rfl (Nat.le_of_ble_eq_true rfl) rfl (fun p e s m below meth c Q ls hC hG hM Kr hl => wX9_readPart hC hG ⟨Nat.le_refl _, Nat.le_refl _⟩ Kr _ _ _ _ _ _ h hM hl)
/-! X4_readPair ()Z -/
def fX4_readPair_b95  (o0 : Nat)  (σ : Mem) : Option (Int32 × Mem) :=
  (fI σ 4 11 (some o0)).bind fun t1 =>
    (kT σ 4 (some o0)).bind fun k2 =>
    b2 (fX4_readNumber k2 t1 σ) fun t3 m4 =>
    if t3 = 0 ∨ t3 = 1 then some (t3, m4) else none
set_option maxRecDepth 20000 in
theorem wX4_readPair_b95 {r : Int32} {σ' : Mem} (hC : CallFix p m c cX4_readPair 1 s args WALL RX4) (hG : GS D cy A s) (hR : 4 ≤ R.frames ∧ 144 ≤ R.locals) (Kr : KrZ p l e R s m args below meth c cX4_readPair Q D cy ad A z r σ')  (o0 : Nat)  (σ : Mem) (H : Heap) (locs : List Loc) (ls : Array Slot) (h : fX4_readPair_b95 o0 σ = some (r, σ')) (hM : MS D cy ad A s.heap z σ H locs) (hl : lv_has ls 1 [(0, va_rf (Option.map ad (some o0)))]) : W p l e R s m args below meth c H locs 0 0 Q (F0 m 95 ls []) := by
  have hx := hC.1
  have hb := hC.2.1
  unfold fX4_readPair_b95 at h
  refine lr_aload_n hx hb dX4_readPair_95 rfl (lv_at hl 0 rfl) ?_
  refine lr_aload_n hx hb dX4_readPair_96 rfl (lv_at hl 0 rfl) ?_
  obtain ⟨t1, e_t1, h⟩ := bn h
  refine gf_X4_45 hC hG hM e_t1 dX4_readPair_97 ?_
  obtain ⟨k2, e_k2, h⟩ := bn h
  obtain ⟨t3, m4, e_m4, h⟩ := b2_elim h
  refine cs_X4_72 e_k2 hC hG hM (cX4_readNumber_ok e_m4) ⟨by omega, by omega⟩ hl.1 (by first | exact Nat.le_of_ble_eq_true rfl | simp [va_cat, vcI, vcL, vcR]) dX4_readPair_100 (fun H locs hM => ?_)
  by_cases c5 : t3 = 0 ∨ t3 = 1
  · rw [if_pos c5] at h
    cases h
    exact Kr _ _ _ _ dX4_readPair_103 (nar01 c5) hM
  · rw [if_neg c5] at h
    cases h
def fX4_readPair_b61   (y0 : Int32) (σ : Mem) : Option (Int32 × Mem) :=
  if y0 = 0 ∨ y0 = 1 then some (y0, σ) else none
set_option maxRecDepth 20000 in
theorem wX4_readPair_b61 {r : Int32} {σ' : Mem} (hC : CallFix p m c cX4_readPair 1 s args WALL RX4) (hG : GS D cy A s) (hR : 4 ≤ R.frames ∧ 144 ≤ R.locals) (Kr : KrZ p l e R s m args below meth c cX4_readPair Q D cy ad A z r σ')   (y0 : Int32) (σ : Mem) (H : Heap) (locs : List Loc) (ls : Array Slot) (h : fX4_readPair_b61 y0 σ = some (r, σ')) (hM : MS D cy ad A s.heap z σ H locs) (hl : lv_has ls 1 []) : W p l e R s m args below meth c H locs 0 0 Q (F0 m 61 ls [.int y0]) := by
  have hx := hC.1
  have hb := hC.2.1
  unfold fX4_readPair_b61 at h
  by_cases c1 : y0 = 0 ∨ y0 = 1
  · rw [if_pos c1] at h
    cases h
    exact Kr _ _ _ _ dX4_readPair_61 (nar01 c1) hM
  · rw [if_neg c1] at h
    cases h
def fX4_readPair (o0 : Nat) (σ : Mem) : Option (Int32 × Mem) :=
  (fI σ 4 11 (some o0)).bind fun t1 =>
    if t1 = 10 then (fR σ 4 1 (some o0)).bind fun t29 =>
      (fI σ 3 1 t29).bind fun t30 =>
      (pI σ 3 1 t29 (t30 + 1)).bind fun m31 =>
      some (1, m31)
    else (fI σ 4 11 (some o0)).bind fun t3 =>
      if t3 = 0 then (fR σ 4 1 (some o0)).bind fun t16 =>
        (kT σ 3 t16).bind fun k17 =>
        b2 (fX3_nextPlan k17 σ) fun t18 m19 =>
        (pR m19 4 2 (some o0) t18).bind fun m20 =>
        (fR m20 4 2 (some o0)).bind fun t21 =>
        if t21 = none then (kT m20 4 (some o0)).bind fun k26 =>
          b2 (fX4_refuse k26 4 m20) fun t27 m28 =>
          fX4_readPair_b61 t27 m28
        else (kT m20 4 (some o0)).bind fun k23 =>
          b2 (fX4_readName k23 m20) fun t24 m25 =>
          fX4_readPair_b61 t24 m25
      else (fI σ 4 11 (some o0)).bind fun t5 =>
        if t5 = 7 then (fR σ 4 3 (some o0)).bind fun t7 =>
          if t7 = none then fX4_readPair_b95 o0 σ
          else (fR σ 4 3 (some o0)).bind fun t9 =>
            (fI σ 0 3 t9).bind fun t10 =>
            if t10 < 3 then fX4_readPair_b95 o0 σ
            else (kT σ 4 (some o0)).bind fun k12 =>
              b2 (fX4_refuse k12 4 σ) fun t13 m14 =>
              if t13 = 0 ∨ t13 = 1 then some (t13, m14) else none
        else fX4_readPair_b95 o0 σ
set_option maxRecDepth 20000 in
theorem wX4_readPair {r : Int32} {σ' : Mem} (hC : CallFix p m c cX4_readPair 1 s args WALL RX4) (hG : GS D cy A s) (hR : 4 ≤ R.frames ∧ 144 ≤ R.locals) (Kr : KrZ p l e R s m args below meth c cX4_readPair Q D cy ad A z r σ') (o0 : Nat) (σ : Mem) (H : Heap) (locs : List Loc) (ls : Array Slot) (h : fX4_readPair o0 σ = some (r, σ')) (hM : MS D cy ad A s.heap z σ H locs) (hl : lv_has ls 1 [(0, va_rf (Option.map ad (some o0)))]) : W p l e R s m args below meth c H locs 0 0 Q (F0 m 0 ls []) := by
  have hx := hC.1
  have hb := hC.2.1
  unfold fX4_readPair at h
  refine lr_aload_n hx hb dX4_readPair_0 rfl (lv_at hl 0 rfl) ?_
  obtain ⟨t1, e_t1, h⟩ := bn h
  refine gf_X4_45 hC hG hM e_t1 dX4_readPair_1 ?_
  refine lv_bipush (v := 10) hx hb dX4_readPair_4 (by decide) ?_
  refine lv_icmp_ne (tgt := 24) hx hb dX4_readPair_6 (by decide) (fun c2 => ?_) (fun c2 => ?_)
  · rw [if_neg c2] at h
    refine lr_aload_n hx hb dX4_readPair_24 rfl (lv_at hl 0 rfl) ?_
    obtain ⟨t3, e_t3, h⟩ := bn h
    refine gf_X4_45 hC hG hM e_t3 dX4_readPair_25 ?_
    refine lv_if_ne (tgt := 62) hx hb dX4_readPair_28 (by decide) (fun c4 => ?_) (fun c4 => ?_)
    · rw [if_neg c4] at h
      refine lr_aload_n hx hb dX4_readPair_62 rfl (lv_at hl 0 rfl) ?_
      obtain ⟨t5, e_t5, h⟩ := bn h
      refine gf_X4_45 hC hG hM e_t5 dX4_readPair_63 ?_
      refine lv_bipush (v := 7) hx hb dX4_readPair_66 (by decide) ?_
      refine lv_icmp_ne (tgt := 95) hx hb dX4_readPair_68 (by decide) (fun c6 => ?_) (fun c6 => ?_)
      · rw [if_neg c6] at h
        exact wX4_readPair_b95 hC hG hR Kr _ _ _ _ _ h hM (lv_sub hl [0] rfl)
      · rw [if_pos c6] at h
        refine lr_aload_n hx hb dX4_readPair_71 rfl (lv_at hl 0 rfl) ?_
        obtain ⟨t7, e_t7, h⟩ := bn h
        refine gf_X4_63 hC hG hM e_t7 dX4_readPair_72 ?_
        refine lr_ifnull (tgt := 95) hx hb dX4_readPair_75 (by decide) (fun c8 => ?_) (fun c8 => ?_)
        · rw [if_pos c8] at h
          exact wX4_readPair_b95 hC hG hR Kr _ _ _ _ _ h hM (lv_sub hl [0] rfl)
        · rw [if_neg c8] at h
          refine lr_aload_n hx hb dX4_readPair_78 rfl (lv_at hl 0 rfl) ?_
          obtain ⟨t9, e_t9, h⟩ := bn h
          refine gf_X4_63 hC hG hM e_t9 dX4_readPair_79 ?_
          obtain ⟨t10, e_t10, h⟩ := bn h
          refine gf_X4_67 hC hG hM e_t10 dX4_readPair_82 ?_
          refine lv_iconst (v := 3) hx hb dX4_readPair_85 (by decide) ?_
          refine lv_icmp_lt (tgt := 95) hx hb dX4_readPair_86 (by decide) (fun c11 => ?_) (fun c11 => ?_)
          · rw [if_pos c11] at h
            exact wX4_readPair_b95 hC hG hR Kr _ _ _ _ _ h hM (lv_sub hl [0] rfl)
          · rw [if_neg c11] at h
            refine lr_aload_n hx hb dX4_readPair_89 rfl (lv_at hl 0 rfl) ?_
            refine lv_iconst (v := 4) hx hb dX4_readPair_90 (by decide) ?_
            obtain ⟨k12, e_k12, h⟩ := bn h
            obtain ⟨t13, m14, e_m14, h⟩ := b2_elim h
            refine cs_X4_42 e_k12 hC hG hM (cX4_refuse_ok e_m14) ⟨by omega, by omega⟩ hl.1 (by first | exact Nat.le_of_ble_eq_true rfl | simp [va_cat, vcI, vcL, vcR]) dX4_readPair_91 (fun H locs hM => ?_)
            by_cases c15 : t13 = 0 ∨ t13 = 1
            · rw [if_pos c15] at h
              cases h
              exact Kr _ _ _ _ dX4_readPair_94 (nar01 c15) hM
            · rw [if_neg c15] at h
              cases h
    · rw [if_pos c4] at h
      refine lr_aload_n hx hb dX4_readPair_31 rfl (lv_at hl 0 rfl) ?_
      refine lr_aload_n hx hb dX4_readPair_32 rfl (lv_at hl 0 rfl) ?_
      obtain ⟨t16, e_t16, h⟩ := bn h
      refine gf_X4_18 hC hG hM e_t16 dX4_readPair_33 ?_
      obtain ⟨k17, e_k17, h⟩ := bn h
      obtain ⟨t18, m19, e_m19, h⟩ := b2_elim h
      refine cs_X4_52 e_k17 hC hG hM (cX3_nextPlan_ok e_m19) ⟨by omega, by omega⟩ hl.1 (by first | exact Nat.le_of_ble_eq_true rfl | simp [va_cat, vcI, vcL, vcR]) dX4_readPair_36 (fun H locs hM => ?_)
      obtain ⟨m20, e_m20, h⟩ := bn h
      refine pf_X4_56 hC hG hM e_m20 dX4_readPair_39 (fun H locs hM => ?_)
      refine lr_aload_n hx hb dX4_readPair_42 rfl (lv_at hl 0 rfl) ?_
      obtain ⟨t21, e_t21, h⟩ := bn h
      refine gf_X4_56 hC hG hM e_t21 dX4_readPair_43 ?_
      refine lr_ifnonnull (tgt := 57) hx hb dX4_readPair_46 (by decide) (fun c22 => ?_) (fun c22 => ?_)
      · rw [if_neg c22] at h
        refine lr_aload_n hx hb dX4_readPair_57 rfl (lv_at hl 0 rfl) ?_
        obtain ⟨k23, e_k23, h⟩ := bn h
        obtain ⟨t24, m25, e_m25, h⟩ := b2_elim h
        refine cs_X4_60 e_k23 hC hG hM (cX4_readName_ok e_m25) ⟨by omega, by omega⟩ hl.1 (by first | exact Nat.le_of_ble_eq_true rfl | simp [va_cat, vcI, vcL, vcR]) dX4_readPair_58 (fun H locs hM => ?_)
        exact wX4_readPair_b61 hC hG hR Kr _ _ _ _ _ h hM (lv_sub hl [] rfl)
      · rw [if_pos c22] at h
        refine lr_aload_n hx hb dX4_readPair_49 rfl (lv_at hl 0 rfl) ?_
        refine lv_iconst (v := 4) hx hb dX4_readPair_50 (by decide) ?_
        obtain ⟨k26, e_k26, h⟩ := bn h
        obtain ⟨t27, m28, e_m28, h⟩ := b2_elim h
        refine cs_X4_42 e_k26 hC hG hM (cX4_refuse_ok e_m28) ⟨by omega, by omega⟩ hl.1 (by first | exact Nat.le_of_ble_eq_true rfl | simp [va_cat, vcI, vcL, vcR]) dX4_readPair_51 (fun H locs hM => ?_)
        refine lv_goto (tgt := 61) hx hb dX4_readPair_54 (by decide) ?_
        exact wX4_readPair_b61 hC hG hR Kr _ _ _ _ _ h hM (lv_sub hl [] rfl)
  · rw [if_pos c2] at h
    refine lr_aload_n hx hb dX4_readPair_9 rfl (lv_at hl 0 rfl) ?_
    obtain ⟨t29, e_t29, h⟩ := bn h
    refine gf_X4_18 hC hG hM e_t29 dX4_readPair_10 ?_
    refine lv_dup hx hb dX4_readPair_13 (va_cat _) ?_
    obtain ⟨t30, e_t30, h⟩ := bn h
    refine gf_X4_22 hC hG hM e_t30 dX4_readPair_14 ?_
    refine lv_iconst (v := 1) hx hb dX4_readPair_17 (by decide) ?_
    refine lv_iadd hx hb dX4_readPair_18 ?_
    obtain ⟨m31, e_m31, h⟩ := bn h
    refine pf_X4_22 hC hG hM e_m31 dX4_readPair_19 (fun H locs hM => ?_)
    refine lv_iconst (v := 1) hx hb dX4_readPair_22 (by decide) ?_
    cases h
    exact Kr _ _ _ _ dX4_readPair_23 rfl hM
theorem cX4_readPair_ok {l : Launch} {D : va_G} {cy : Nat → ClassId} {ad : Nat → Nat} {A : Nat → Prop} {z : Nat} {r : Int32} {σ' : Mem} {o0 : Nat} {σ : Mem} (h : fX4_readPair o0 σ = some (r, σ')) : CtI l yX4_readPair cX4_readPair 1 (some .boolean) 4 [.ref (ad o0)] D cy ad A z σ r σ' :=
  enterZ (own := RX4) (by decide) rfl (Nat.le_of_ble_eq_true rfl) rfl (fun p e s m below meth c Q ls hC hG hM Kr hl => wX4_readPair hC hG ⟨Nat.le_refl _, Nat.le_refl _⟩ Kr _ _ _ _ _ h hM hl)
/-! X5_fillMonthCents ([II)V -/
def fX5_fillMonthCents_b56    (σ : Mem) : Option (Mem) :=
  some σ
set_option maxRecDepth 20000 in
theorem wX5_fillMonthCents_b56 {σ' : Mem} (hC : CallFix p m c cX5_fillMonthCents 5 s args WALL RX5) (hG : GS D cy A s) (hR : 4 ≤ R.frames ∧ 144 ≤ R.locals) (Kr : KrV p l e R s m args below meth c cX5_fillMonthCents Q D cy ad A z () σ')    (σ : Mem) (H : Heap) (locs : List Loc) (ls : Array Slot) (h : fX5_fillMonthCents_b56  σ = some σ') (hM : MS D cy ad A s.heap z σ H locs) (hl : lv_has ls 5 []) : W p l e R s m args below meth c H locs 0 0 Q (F0 m 56 ls []) := by
  have hx := hC.1
  have hb := hC.2.1
  unfold fX5_fillMonthCents_b56 at h
  cases h
  exact Kr _ _ _ _ dX5_fillMonthCents_56 hM
def fX5_fillMonthCents_b49 (rc2 : Nat → (Option Nat) → Int32 → Int32 → Mem → Option (Mem)) (o0 : Nat) (x1 : Option Nat) (x2 : Int32) (x3 : Int32) (y0 : Int64) (y1 : Int32) (y2 : Option Nat) (σ : Mem) : Option (Mem) :=
  (wJ σ 12 y2 y1 y0).bind fun m1 =>
    bd (x3 + 1) fun t2 =>
    rc2 o0 x1 x2 t2 m1
set_option maxRecDepth 20000 in
theorem wX5_fillMonthCents_b49 {σ' : Mem} (hC : CallFix p m c cX5_fillMonthCents 5 s args WALL RX5) (hG : GS D cy A s) (hR : 4 ≤ R.frames ∧ 144 ≤ R.locals) (Kr : KrV p l e R s m args below meth c cX5_fillMonthCents Q D cy ad A z () σ') {rc2 : Nat → (Option Nat) → Int32 → Int32 → Mem → Option (Mem)} (Kc2 : ∀ (o0 : Nat) (x1 : Option Nat) (x2 : Int32) (x3 : Int32) (τ : Mem) (H : Heap) (locs : List Loc) (ls : Array Slot), rc2 o0 x1 x2 x3 τ = some σ' → MS D cy ad A s.heap z τ H locs → lv_has ls 5 [(0, va_rf (Option.map ad (some o0))), (1, va_rf (Option.map ad x1)), (2, .int x2), (3, .int x3)] → W p l e R s m args below meth c H locs 0 0 Q (F0 m 2 ls [])) (o0 : Nat) (x1 : Option Nat) (x2 : Int32) (x3 : Int32) (y0 : Int64) (y1 : Int32) (y2 : Option Nat) (σ : Mem) (H : Heap) (locs : List Loc) (ls : Array Slot) (h : fX5_fillMonthCents_b49 rc2 o0 x1 x2 x3 y0 y1 y2 σ = some σ') (hM : MS D cy ad A s.heap z σ H locs) (hl : lv_has ls 5 [(0, va_rf (Option.map ad (some o0))), (1, va_rf (Option.map ad x1)), (2, .int x2), (3, .int x3)]) : W p l e R s m args below meth c H locs 0 0 Q (F0 m 49 ls [.long y0, .int y1, va_rf (Option.map ad y2)]) := by
  have hx := hC.1
  have hb := hC.2.1
  unfold fX5_fillMonthCents_b49 at h
  obtain ⟨m1, e_m1, h⟩ := bn h
  refine g_last hx hb hG hM e_m1 dX5_fillMonthCents_49 (fun H locs hM => ?_)
  obtain ⟨t2, e_t2, h⟩ := bd_elim h
  refine lv_iinc (v := t2) (lv' := [(3, .int t2), (0, va_rf (Option.map ad (some o0))), (1, va_rf (Option.map ad x1)), (2, .int x2)]) hx hb dX5_fillMonthCents_50 hl (k := 3) rfl (by rw [e_t2]; rfl) (by decide) (by first | rfl | simp [va_cat]) (fun ls hl => ?_)
  refine lv_goto (tgt := 2) hx hb dX5_fillMonthCents_53 (by decide) ?_
  exact Kc2 _ _ _ _ _ _ _ _ h hM (lv_sub hl [1, 2, 3, 0] rfl)
def fX5_fillMonthCents_b2  : Nat → Nat → (Option Nat) → Int32 → Int32 → Mem → Option (Mem)
  | 0, _, _, _, _, _ => none
  | n + 1, o0, x1, x2, x3, σ =>
    (fR σ 5 4 (some o0)).bind fun t1 =>
      (fI σ 3 1 t1).bind fun t2 =>
      if t2 ≤ x3 then fX5_fillMonthCents_b56 σ
      else (fR σ 5 4 (some o0)).bind fun t4 =>
        (kT σ 3 t4).bind fun k5 =>
        b2 (fX3_at k5 x3 σ) fun t6 m7 =>
        (fR m7 5 0 (some o0)).bind fun t8 =>
        b2 (fX5_slot x2 x3 m7) fun t9 m10 =>
        if t6 = none then fX5_fillMonthCents_b49 (fX5_fillMonthCents_b2 n) o0 x1 x2 x3 (-1) t9 t8 m10
        else (kT m10 2 t6).bind fun k12 =>
          b2 (fX2_monthCents k12 x1 m10) fun t13 m14 =>
          fX5_fillMonthCents_b49 (fX5_fillMonthCents_b2 n) o0 x1 x2 x3 t13 t9 t8 m14
set_option maxRecDepth 20000 in
theorem wX5_fillMonthCents_b2 {σ' : Mem} (hC : CallFix p m c cX5_fillMonthCents 5 s args WALL RX5) (hG : GS D cy A s) (hR : 4 ≤ R.frames ∧ 144 ≤ R.locals) (Kr : KrV p l e R s m args below meth c cX5_fillMonthCents Q D cy ad A z () σ')  : ∀ (n : Nat) (o0 : Nat) (x1 : Option Nat) (x2 : Int32) (x3 : Int32)  (σ : Mem) (H : Heap) (locs : List Loc) (ls : Array Slot), fX5_fillMonthCents_b2 n o0 x1 x2 x3 σ = some σ' → MS D cy ad A s.heap z σ H locs → lv_has ls 5 [(0, va_rf (Option.map ad (some o0))), (1, va_rf (Option.map ad x1)), (2, .int x2), (3, .int x3)] → W p l e R s m args below meth c H locs 0 0 Q (F0 m 2 ls []) := by
  have hx := hC.1
  have hb := hC.2.1
  intro n
  induction n with
  | zero =>
    intro o0 x1 x2 x3 σ H locs ls h
    cases h
  | succ n ih =>
    intro o0 x1 x2 x3 σ H locs ls h hM hl
    rw [fX5_fillMonthCents_b2] at h
    refine lv_iload_n hx hb dX5_fillMonthCents_2 rfl (lv_at hl 3 rfl) ?_
    refine lr_aload_n hx hb dX5_fillMonthCents_3 rfl (lv_at hl 0 rfl) ?_
    obtain ⟨t1, e_t1, h⟩ := bn h
    refine gf_X5_25 hC hG hM e_t1 dX5_fillMonthCents_4 ?_
    obtain ⟨t2, e_t2, h⟩ := bn h
    refine gf_X5_55 hC hG hM e_t2 dX5_fillMonthCents_7 ?_
    refine lv_icmp_ge (tgt := 56) hx hb dX5_fillMonthCents_10 (by decide) (fun c3 => ?_) (fun c3 => ?_)
    · rw [if_pos c3] at h
      exact wX5_fillMonthCents_b56 hC hG hR Kr _ _ _ _ h hM (lv_sub hl [] rfl)
    · rw [if_neg c3] at h
      refine lr_aload_n hx hb dX5_fillMonthCents_13 rfl (lv_at hl 0 rfl) ?_
      obtain ⟨t4, e_t4, h⟩ := bn h
      refine gf_X5_25 hC hG hM e_t4 dX5_fillMonthCents_14 ?_
      refine lv_iload_n hx hb dX5_fillMonthCents_17 rfl (lv_at hl 3 rfl) ?_
      obtain ⟨k5, e_k5, h⟩ := bn h
      obtain ⟨t6, m7, e_m7, h⟩ := b2_elim h
      refine cs_X5_86 e_k5 hC hG hM (cX3_at_ok e_m7) ⟨by omega, by omega⟩ hl.1 (by first | exact Nat.le_of_ble_eq_true rfl | simp [va_cat, vcI, vcL, vcR]) dX5_fillMonthCents_18 (fun H locs hM => ?_)
      refine lr_astore (lv' := [(4, va_rf (Option.map ad t6)), (0, va_rf (Option.map ad (some o0))), (1, va_rf (Option.map ad x1)), (2, .int x2), (3, .int x3)]) hx hb dX5_fillMonthCents_21 hl (by decide) (by first | rfl | simp [va_cat]) (fun ls hl => ?_)
      refine lr_aload_n hx hb dX5_fillMonthCents_23 rfl (lv_at hl 1 rfl) ?_
      obtain ⟨t8, e_t8, h⟩ := bn h
      refine gf_X5_9 hC hG hM e_t8 dX5_fillMonthCents_24 ?_
      refine lv_iload_n hx hb dX5_fillMonthCents_27 rfl (lv_at hl 3 rfl) ?_
      refine lv_iload_n hx hb dX5_fillMonthCents_28 rfl (lv_at hl 4 rfl) ?_
      obtain ⟨t9, m10, e_m10, h⟩ := b2_elim h
      refine cs_X5_95 hC hG hM (cX5_slot_ok e_m10) ⟨by omega, by omega⟩ hl.1 (by first | exact Nat.le_of_ble_eq_true rfl | simp [va_cat, vcI, vcL, vcR]) dX5_fillMonthCents_29 (fun H locs hM => ?_)
      refine lr_aload hx hb dX5_fillMonthCents_32 (lv_at hl 0 rfl) ?_
      refine lr_ifnonnull (tgt := 43) hx hb dX5_fillMonthCents_34 (by decide) (fun c11 => ?_) (fun c11 => ?_)
      · rw [if_neg c11] at h
        refine lr_aload hx hb dX5_fillMonthCents_43 (lv_at hl 0 rfl) ?_
        refine lr_aload_n hx hb dX5_fillMonthCents_45 rfl (lv_at hl 2 rfl) ?_
        obtain ⟨k12, e_k12, h⟩ := bn h
        obtain ⟨t13, m14, e_m14, h⟩ := b2_elim h
        refine cs_X5_100 e_k12 hC hG hM (cX2_monthCents_ok e_m14) ⟨by omega, by omega⟩ hl.1 (by first | exact Nat.le_of_ble_eq_true rfl | simp [va_cat, vcI, vcL, vcR]) dX5_fillMonthCents_46 (fun H locs hM => ?_)
        exact wX5_fillMonthCents_b49 hC hG hR Kr ih _ _ _ _ _ _ _ _ _ _ _ h hM (lv_sub hl [1, 2, 3, 4] rfl)
      · rw [if_pos c11] at h
        refine lv_ldc2 (v := (-1)) hx hb hC.2.2.2.1 (hC.2.2.2.2 _ wk_X5_98) dX5_fillMonthCents_37 ?_
        refine lv_goto (tgt := 49) hx hb dX5_fillMonthCents_40 (by decide) ?_
        exact wX5_fillMonthCents_b49 hC hG hR Kr ih _ _ _ _ _ _ _ _ _ _ _ h hM (lv_sub hl [1, 2, 3, 4] rfl)
def fX5_fillMonthCents (o0 : Nat) (x1 : Option Nat) (x2 : Int32) (σ : Mem) : Option (Mem) :=
  fX5_fillMonthCents_b2 FU o0 x1 x2 0 σ
set_option maxRecDepth 20000 in
theorem wX5_fillMonthCents {σ' : Mem} (hC : CallFix p m c cX5_fillMonthCents 5 s args WALL RX5) (hG : GS D cy A s) (hR : 4 ≤ R.frames ∧ 144 ≤ R.locals) (Kr : KrV p l e R s m args below meth c cX5_fillMonthCents Q D cy ad A z () σ') (o0 : Nat) (x1 : Option Nat) (x2 : Int32) (σ : Mem) (H : Heap) (locs : List Loc) (ls : Array Slot) (h : fX5_fillMonthCents o0 x1 x2 σ = some σ') (hM : MS D cy ad A s.heap z σ H locs) (hl : lv_has ls 5 [(0, va_rf (Option.map ad (some o0))), (1, va_rf (Option.map ad x1)), (2, .int x2)]) : W p l e R s m args below meth c H locs 0 0 Q (F0 m 0 ls []) := by
  have hx := hC.1
  have hb := hC.2.1
  unfold fX5_fillMonthCents at h
  refine lv_iconst (v := 0) hx hb dX5_fillMonthCents_0 (by decide) ?_
  refine lv_istore_n (lv' := [(3, .int 0), (0, va_rf (Option.map ad (some o0))), (1, va_rf (Option.map ad x1)), (2, .int x2)]) hx hb dX5_fillMonthCents_1 rfl hl (by decide) (by first | rfl | simp [va_cat]) (fun ls hl => ?_)
  exact wX5_fillMonthCents_b2 hC hG hR Kr FU _ _ _ _ _ _ _ _ h hM (lv_sub hl [1, 2, 3, 0] rfl)
theorem cX5_fillMonthCents_ok {l : Launch} {D : va_G} {cy : Nat → ClassId} {ad : Nat → Nat} {A : Nat → Prop} {z : Nat} {σ' : Mem} {o0 : Nat} {x1 : Option Nat} {x2 : Int32} {σ : Mem} (h : fX5_fillMonthCents o0 x1 x2 σ = some σ') : CtV l yX5_fillMonthCents cX5_fillMonthCents 5 none 4 [.ref (ad o0), va_rf (Option.map ad x1), .int x2] D cy ad A z σ () σ' :=
  enterV (own := RX5) (by decide) rfl (by simp [lg_sl, va_cat, vcI, vcL, vcR]) rfl (fun p e s m below meth c Q ls hC hG hM Kr hl => wX5_fillMonthCents hC hG ⟨Nat.le_refl _, Nat.le_refl _⟩ Kr _ _ _ _ _ _ _ h hM (by simp [lv_args, va_cat, vcI, vcL, vcR] at hl; exact hl))
end WK
