section WK
variable {p : Program} {l : Launch} {e : Env} {R : Room} {s : State} {m : MethodId} {args : Array Value} {below : List Frame} {meth : Method} {c : Code} {Q : State → Prop}
variable {D : va_G} {cy : Nat → ClassId} {ad : Nat → Nat} {A : Nat → Prop} {z : Nat}
/-! X9_uses (III)I -/
def fX9_uses_b159  (x4 : Int32)  (σ : Mem) : Option (Int32 × Mem) :=
  some (x4 / 2, σ)
set_option maxRecDepth 20000 in
theorem wX9_uses_b159 {r : Int32} {σ' : Mem} (hC : CallFix p m c cX9_uses 6 s args WALL RX9) (hG : GS D cy A s) (hR : 1 ≤ R.frames ∧ 36 ≤ R.locals) (Kr : KrI p l e R s m args below meth c cX9_uses Q D cy ad A z r σ')  (x4 : Int32)  (σ : Mem) (H : Heap) (locs : List Loc) (ls : Array Slot) (h : fX9_uses_b159 x4 σ = some (r, σ')) (hM : MS D cy ad A s.heap z σ H locs) (hl : lv_has ls 6 [(4, .int x4)]) : W p l e R s m args below meth c H locs 0 0 Q (F0 m 159 ls []) := by
  have hx := hC.1
  have hb := hC.2.1
  unfold fX9_uses_b159 at h
  refine lv_iload hx hb dX9_uses_159 (lv_at hl 0 rfl) ?_
  refine lv_iconst (v := 2) hx hb dX9_uses_161 (by decide) ?_
  refine lv_idiv hx hb dX9_uses_162 (by decide) ?_
  obtain ⟨rfl, rfl⟩ := Prod.mk.inj (Option.some.inj h)
  exact Kr _ _ _ _ dX9_uses_163 hM
def fX9_uses_b109  : Nat → Nat → Int32 → Int32 → Int32 → Int32 → Int32 → Mem → Option (Int32 × Mem)
  | 0, _, _, _, _, _, _, _ => none
  | n + 1, o0, x1, x2, x3, x4, x5, σ =>
    if x4 ≤ x5 then fX9_uses_b159 x4 σ
      else (fR σ 9 27 (some o0)).bind fun t2 =>
        b2 (fX9_cell x1 x2 (x3 + (x5 / 2)) σ) fun t3 m4 =>
        (fR m4 9 1 (some o0)).bind fun t5 =>
        (aI m4 11 t5 x5).bind fun t6 =>
        (fR m4 9 1 (some o0)).bind fun t7 =>
        (aI m4 11 t7 (x5 + 1)).bind fun t8 =>
        (wI m4 11 t2 t3 ((256 * t6) + t8)).bind fun m9 =>
        bd (x5 + 2) fun t10 =>
        (fX9_uses_b109 n) o0 x1 x2 x3 x4 t10 m9
set_option maxRecDepth 20000 in
theorem wX9_uses_b109 {r : Int32} {σ' : Mem} (hC : CallFix p m c cX9_uses 6 s args WALL RX9) (hG : GS D cy A s) (hR : 1 ≤ R.frames ∧ 36 ≤ R.locals) (Kr : KrI p l e R s m args below meth c cX9_uses Q D cy ad A z r σ')  : ∀ (n : Nat) (o0 : Nat) (x1 : Int32) (x2 : Int32) (x3 : Int32) (x4 : Int32) (x5 : Int32)  (σ : Mem) (H : Heap) (locs : List Loc) (ls : Array Slot), fX9_uses_b109 n o0 x1 x2 x3 x4 x5 σ = some (r, σ') → MS D cy ad A s.heap z σ H locs → lv_has ls 6 [(0, va_rf (Option.map ad (some o0))), (1, .int x1), (2, .int x2), (3, .int x3), (4, .int x4), (5, .int x5)] → W p l e R s m args below meth c H locs 0 0 Q (F0 m 109 ls []) := by
  have hx := hC.1
  have hb := hC.2.1
  intro n
  induction n with
  | zero =>
    intro o0 x1 x2 x3 x4 x5 σ H locs ls h
    cases h
  | succ n ih =>
    intro o0 x1 x2 x3 x4 x5 σ H locs ls h hM hl
    rw [fX9_uses_b109] at h
    refine lv_iload hx hb dX9_uses_109 (lv_at hl 5 rfl) ?_
    refine lv_iload hx hb dX9_uses_111 (lv_at hl 4 rfl) ?_
    refine lv_icmp_ge (tgt := 159) hx hb dX9_uses_113 (by decide) (fun c1 => ?_) (fun c1 => ?_)
    · rw [if_pos c1] at h
      exact wX9_uses_b159 hC hG hR Kr _ _ _ _ _ h hM (lv_sub hl [4] rfl)
    · rw [if_neg c1] at h
      refine lr_aload_n hx hb dX9_uses_116 rfl (lv_at hl 0 rfl) ?_
      obtain ⟨t2, e_t2, h⟩ := bn h
      refine gf_X9_51 hC hG hM e_t2 dX9_uses_117 ?_
      refine lv_iload_n hx hb dX9_uses_120 rfl (lv_at hl 1 rfl) ?_
      refine lv_iload_n hx hb dX9_uses_121 rfl (lv_at hl 2 rfl) ?_
      refine lv_iload_n hx hb dX9_uses_122 rfl (lv_at hl 3 rfl) ?_
      refine lv_iload hx hb dX9_uses_123 (lv_at hl 5 rfl) ?_
      refine lv_iconst (v := 2) hx hb dX9_uses_125 (by decide) ?_
      refine lv_idiv hx hb dX9_uses_126 (by decide) ?_
      refine lv_iadd hx hb dX9_uses_127 ?_
      obtain ⟨t3, m4, e_m4, h⟩ := b2_elim h
      refine cs_X9_227 hC hG hM (cX9_cell_ok e_m4) ⟨by omega, by omega⟩ hl.1 (by first | exact Nat.le_of_ble_eq_true rfl | simp [va_cat, vcI, vcL, vcR]) dX9_uses_128 (fun H locs hM => ?_)
      refine lv_sipush (v := 256) hx hb dX9_uses_131 (by decide) ?_
      refine lr_aload_n hx hb dX9_uses_134 rfl (lv_at hl 0 rfl) ?_
      obtain ⟨t5, e_t5, h⟩ := bn h
      refine gf_X9_7 hC hG hM e_t5 dX9_uses_135 ?_
      refine lv_iload hx hb dX9_uses_138 (lv_at hl 5 rfl) ?_
      obtain ⟨t6, e_t6, h⟩ := bn h
      refine g_iald hx hb hG hM e_t6 dX9_uses_140 ?_
      refine lv_imul hx hb dX9_uses_141 ?_
      refine lr_aload_n hx hb dX9_uses_142 rfl (lv_at hl 0 rfl) ?_
      obtain ⟨t7, e_t7, h⟩ := bn h
      refine gf_X9_7 hC hG hM e_t7 dX9_uses_143 ?_
      refine lv_iload hx hb dX9_uses_146 (lv_at hl 5 rfl) ?_
      refine lv_iconst (v := 1) hx hb dX9_uses_148 (by decide) ?_
      refine lv_iadd hx hb dX9_uses_149 ?_
      obtain ⟨t8, e_t8, h⟩ := bn h
      refine g_iald hx hb hG hM e_t8 dX9_uses_150 ?_
      refine lv_iadd hx hb dX9_uses_151 ?_
      obtain ⟨m9, e_m9, h⟩ := bn h
      refine g_iast hx hb hG hM e_m9 dX9_uses_152 (fun H locs hM => ?_)
      obtain ⟨t10, e_t10, h⟩ := bd_elim h
      refine lv_iinc (v := t10) (lv' := [(5, .int t10), (0, va_rf (Option.map ad (some o0))), (1, .int x1), (2, .int x2), (3, .int x3), (4, .int x4)]) hx hb dX9_uses_153 hl (k := 5) rfl (by rw [e_t10]; rfl) (by decide) (by first | rfl | simp [va_cat]) (fun ls hl => ?_)
      refine lv_goto (tgt := 109) hx hb dX9_uses_156 (by decide) ?_
      exact ih _ _ _ _ _ _ _ _ _ _ h hM (lv_sub hl [1, 2, 3, 4, 5, 0] rfl)
def fX9_uses_b106  (o0 : Nat) (x1 : Int32) (x2 : Int32) (x3 : Int32) (x4 : Int32)  (σ : Mem) : Option (Int32 × Mem) :=
  fX9_uses_b109 FU o0 x1 x2 x3 x4 0 σ
set_option maxRecDepth 20000 in
theorem wX9_uses_b106 {r : Int32} {σ' : Mem} (hC : CallFix p m c cX9_uses 6 s args WALL RX9) (hG : GS D cy A s) (hR : 1 ≤ R.frames ∧ 36 ≤ R.locals) (Kr : KrI p l e R s m args below meth c cX9_uses Q D cy ad A z r σ')  (o0 : Nat) (x1 : Int32) (x2 : Int32) (x3 : Int32) (x4 : Int32)  (σ : Mem) (H : Heap) (locs : List Loc) (ls : Array Slot) (h : fX9_uses_b106 o0 x1 x2 x3 x4 σ = some (r, σ')) (hM : MS D cy ad A s.heap z σ H locs) (hl : lv_has ls 6 [(0, va_rf (Option.map ad (some o0))), (1, .int x1), (2, .int x2), (3, .int x3), (4, .int x4)]) : W p l e R s m args below meth c H locs 0 0 Q (F0 m 106 ls []) := by
  have hx := hC.1
  have hb := hC.2.1
  unfold fX9_uses_b106 at h
  refine lv_iconst (v := 0) hx hb dX9_uses_106 (by decide) ?_
  refine lv_istore (lv' := [(5, .int 0), (0, va_rf (Option.map ad (some o0))), (1, .int x1), (2, .int x2), (3, .int x3), (4, .int x4)]) hx hb dX9_uses_107 hl (by decide) (by first | rfl | simp [va_cat]) (fun ls hl => ?_)
  exact wX9_uses_b109 hC hG hR Kr FU _ _ _ _ _ _ _ _ _ _ h hM (lv_sub hl [1, 2, 3, 4, 5, 0] rfl)
def fX9_uses_b64  : Nat → Nat → Int32 → Int32 → Int32 → Int32 → Int32 → Mem → Option (Int32 × Mem)
  | 0, _, _, _, _, _, _, _ => none
  | n + 1, o0, x1, x2, x3, x4, x5, σ =>
    if x4 ≤ x5 then fX9_uses_b106 o0 x1 x2 x3 x4 σ
      else (fR σ 9 1 (some o0)).bind fun t2 =>
        (aI σ 11 t2 x5).bind fun t3 =>
        (fR σ 9 1 (some o0)).bind fun t4 =>
        (aI σ 11 t4 (x5 + 1)).bind fun t5 =>
        if ((256 * t3) + t5) ≤ 20000 then bd (x5 + 2) fun t7 =>
          (fX9_uses_b64 n) o0 x1 x2 x3 x4 t7 σ
        else some ((-1), σ)
set_option maxRecDepth 20000 in
theorem wX9_uses_b64 {r : Int32} {σ' : Mem} (hC : CallFix p m c cX9_uses 6 s args WALL RX9) (hG : GS D cy A s) (hR : 1 ≤ R.frames ∧ 36 ≤ R.locals) (Kr : KrI p l e R s m args below meth c cX9_uses Q D cy ad A z r σ')  : ∀ (n : Nat) (o0 : Nat) (x1 : Int32) (x2 : Int32) (x3 : Int32) (x4 : Int32) (x5 : Int32)  (σ : Mem) (H : Heap) (locs : List Loc) (ls : Array Slot), fX9_uses_b64 n o0 x1 x2 x3 x4 x5 σ = some (r, σ') → MS D cy ad A s.heap z σ H locs → lv_has ls 6 [(0, va_rf (Option.map ad (some o0))), (1, .int x1), (2, .int x2), (3, .int x3), (4, .int x4), (5, .int x5)] → W p l e R s m args below meth c H locs 0 0 Q (F0 m 64 ls []) := by
  have hx := hC.1
  have hb := hC.2.1
  intro n
  induction n with
  | zero =>
    intro o0 x1 x2 x3 x4 x5 σ H locs ls h
    cases h
  | succ n ih =>
    intro o0 x1 x2 x3 x4 x5 σ H locs ls h hM hl
    rw [fX9_uses_b64] at h
    refine lv_iload hx hb dX9_uses_64 (lv_at hl 5 rfl) ?_
    refine lv_iload hx hb dX9_uses_66 (lv_at hl 4 rfl) ?_
    refine lv_icmp_ge (tgt := 106) hx hb dX9_uses_68 (by decide) (fun c1 => ?_) (fun c1 => ?_)
    · rw [if_pos c1] at h
      exact wX9_uses_b106 hC hG hR Kr _ _ _ _ _ _ _ _ _ h hM (lv_sub hl [0, 1, 2, 3, 4] rfl)
    · rw [if_neg c1] at h
      refine lv_sipush (v := 256) hx hb dX9_uses_71 (by decide) ?_
      refine lr_aload_n hx hb dX9_uses_74 rfl (lv_at hl 0 rfl) ?_
      obtain ⟨t2, e_t2, h⟩ := bn h
      refine gf_X9_7 hC hG hM e_t2 dX9_uses_75 ?_
      refine lv_iload hx hb dX9_uses_78 (lv_at hl 5 rfl) ?_
      obtain ⟨t3, e_t3, h⟩ := bn h
      refine g_iald hx hb hG hM e_t3 dX9_uses_80 ?_
      refine lv_imul hx hb dX9_uses_81 ?_
      refine lr_aload_n hx hb dX9_uses_82 rfl (lv_at hl 0 rfl) ?_
      obtain ⟨t4, e_t4, h⟩ := bn h
      refine gf_X9_7 hC hG hM e_t4 dX9_uses_83 ?_
      refine lv_iload hx hb dX9_uses_86 (lv_at hl 5 rfl) ?_
      refine lv_iconst (v := 1) hx hb dX9_uses_88 (by decide) ?_
      refine lv_iadd hx hb dX9_uses_89 ?_
      obtain ⟨t5, e_t5, h⟩ := bn h
      refine g_iald hx hb hG hM e_t5 dX9_uses_90 ?_
      refine lv_iadd hx hb dX9_uses_91 ?_
      refine lv_sipush (v := 20000) hx hb dX9_uses_92 (by decide) ?_
      refine lv_icmp_le (tgt := 100) hx hb dX9_uses_95 (by decide) (fun c6 => ?_) (fun c6 => ?_)
      · rw [if_pos c6] at h
        obtain ⟨t7, e_t7, h⟩ := bd_elim h
        refine lv_iinc (v := t7) (lv' := [(5, .int t7), (0, va_rf (Option.map ad (some o0))), (1, .int x1), (2, .int x2), (3, .int x3), (4, .int x4)]) hx hb dX9_uses_100 hl (k := 5) rfl (by rw [e_t7]; rfl) (by decide) (by first | rfl | simp [va_cat]) (fun ls hl => ?_)
        refine lv_goto (tgt := 64) hx hb dX9_uses_103 (by decide) ?_
        exact ih _ _ _ _ _ _ _ _ _ _ h hM (lv_sub hl [1, 2, 3, 4, 5, 0] rfl)
      · rw [if_neg c6] at h
        refine lv_iconst (v := (-1)) hx hb dX9_uses_98 (by decide) ?_
        obtain ⟨rfl, rfl⟩ := Prod.mk.inj (Option.some.inj h)
        exact Kr _ _ _ _ dX9_uses_99 hM
def fX9_uses_b59    (σ : Mem) : Option (Int32 × Mem) :=
  some ((-1), σ)
set_option maxRecDepth 20000 in
theorem wX9_uses_b59 {r : Int32} {σ' : Mem} (hC : CallFix p m c cX9_uses 6 s args WALL RX9) (hG : GS D cy A s) (hR : 1 ≤ R.frames ∧ 36 ≤ R.locals) (Kr : KrI p l e R s m args below meth c cX9_uses Q D cy ad A z r σ')    (σ : Mem) (H : Heap) (locs : List Loc) (ls : Array Slot) (h : fX9_uses_b59  σ = some (r, σ')) (hM : MS D cy ad A s.heap z σ H locs) (hl : lv_has ls 6 []) : W p l e R s m args below meth c H locs 0 0 Q (F0 m 59 ls []) := by
  have hx := hC.1
  have hb := hC.2.1
  unfold fX9_uses_b59 at h
  refine lv_iconst (v := (-1)) hx hb dX9_uses_59 (by decide) ?_
  obtain ⟨rfl, rfl⟩ := Prod.mk.inj (Option.some.inj h)
  exact Kr _ _ _ _ dX9_uses_60 hM
def fX9_uses (o0 : Nat) (x1 : Int32) (x2 : Int32) (x3 : Int32) (σ : Mem) : Option (Int32 × Mem) :=
  (pI σ 9 0 (some o0) 0).bind fun m1 =>
    (fI m1 9 2 (some o0)).bind fun t2 =>
    (pI m1 9 2 (some o0) 0).bind fun m3 =>
    b2 (fX9_isIn x1 4 m3) fun t4 m5 =>
    if t4 = 0 then fX9_uses_b59 m5
    else b2 (fX9_isIn x2 4 m5) fun t7 m8 =>
      if t7 = 0 then fX9_uses_b59 m8
      else b2 (fX9_isIn x3 24 m8) fun t10 m11 =>
        if t10 = 0 then fX9_uses_b59 m11
        else if (t2 - t2 / 2 * 2) = 0 then if (x3 + (t2 / 2)) ≤ 24 then fX9_uses_b64 FU o0 x1 x2 x3 t2 0 m11
            else fX9_uses_b59 m11
          else fX9_uses_b59 m11
set_option maxRecDepth 20000 in
theorem wX9_uses {r : Int32} {σ' : Mem} (hC : CallFix p m c cX9_uses 6 s args WALL RX9) (hG : GS D cy A s) (hR : 1 ≤ R.frames ∧ 36 ≤ R.locals) (Kr : KrI p l e R s m args below meth c cX9_uses Q D cy ad A z r σ') (o0 : Nat) (x1 : Int32) (x2 : Int32) (x3 : Int32) (σ : Mem) (H : Heap) (locs : List Loc) (ls : Array Slot) (h : fX9_uses o0 x1 x2 x3 σ = some (r, σ')) (hM : MS D cy ad A s.heap z σ H locs) (hl : lv_has ls 6 [(0, va_rf (Option.map ad (some o0))), (1, .int x1), (2, .int x2), (3, .int x3)]) : W p l e R s m args below meth c H locs 0 0 Q (F0 m 0 ls []) := by
  have hx := hC.1
  have hb := hC.2.1
  unfold fX9_uses at h
  refine lr_aload_n hx hb dX9_uses_0 rfl (lv_at hl 0 rfl) ?_
  refine lv_iconst (v := 0) hx hb dX9_uses_1 (by decide) ?_
  obtain ⟨m1, e_m1, h⟩ := bn h
  refine pf_X9_87 hC hG hM e_m1 dX9_uses_2 (fun H locs hM => ?_)
  refine lr_aload_n hx hb dX9_uses_5 rfl (lv_at hl 0 rfl) ?_
  obtain ⟨t2, e_t2, h⟩ := bn h
  refine gf_X9_91 hC hG hM e_t2 dX9_uses_6 ?_
  refine lv_istore (lv' := [(4, .int t2), (0, va_rf (Option.map ad (some o0))), (1, .int x1), (2, .int x2), (3, .int x3)]) hx hb dX9_uses_9 hl (by decide) (by first | rfl | simp [va_cat]) (fun ls hl => ?_)
  refine lr_aload_n hx hb dX9_uses_11 rfl (lv_at hl 1 rfl) ?_
  refine lv_iconst (v := 0) hx hb dX9_uses_12 (by decide) ?_
  obtain ⟨m3, e_m3, h⟩ := bn h
  refine pf_X9_91 hC hG hM e_m3 dX9_uses_13 (fun H locs hM => ?_)
  refine lv_iload_n hx hb dX9_uses_16 rfl (lv_at hl 2 rfl) ?_
  refine lv_iconst (v := 4) hx hb dX9_uses_17 (by decide) ?_
  obtain ⟨t4, m5, e_m5, h⟩ := b2_elim h
  refine cs_X9_224 hC hG hM (cX9_isIn_ok e_m5) ⟨by omega, by omega⟩ hl.1 (by first | exact Nat.le_of_ble_eq_true rfl | simp [va_cat, vcI, vcL, vcR]) dX9_uses_18 (fun H locs hM => ?_)
  refine lv_if_eq (tgt := 59) hx hb dX9_uses_21 (by decide) (fun c6 => ?_) (fun c6 => ?_)
  · rw [if_pos c6] at h
    exact wX9_uses_b59 hC hG hR Kr _ _ _ _ h hM (lv_sub hl [] rfl)
  · rw [if_neg c6] at h
    refine lv_iload_n hx hb dX9_uses_24 rfl (lv_at hl 3 rfl) ?_
    refine lv_iconst (v := 4) hx hb dX9_uses_25 (by decide) ?_
    obtain ⟨t7, m8, e_m8, h⟩ := b2_elim h
    refine cs_X9_224 hC hG hM (cX9_isIn_ok e_m8) ⟨by omega, by omega⟩ hl.1 (by first | exact Nat.le_of_ble_eq_true rfl | simp [va_cat, vcI, vcL, vcR]) dX9_uses_26 (fun H locs hM => ?_)
    refine lv_if_eq (tgt := 59) hx hb dX9_uses_29 (by decide) (fun c9 => ?_) (fun c9 => ?_)
    · rw [if_pos c9] at h
      exact wX9_uses_b59 hC hG hR Kr _ _ _ _ h hM (lv_sub hl [] rfl)
    · rw [if_neg c9] at h
      refine lv_iload_n hx hb dX9_uses_32 rfl (lv_at hl 4 rfl) ?_
      refine lv_bipush (v := 24) hx hb dX9_uses_33 (by decide) ?_
      obtain ⟨t10, m11, e_m11, h⟩ := b2_elim h
      refine cs_X9_224 hC hG hM (cX9_isIn_ok e_m11) ⟨by omega, by omega⟩ hl.1 (by first | exact Nat.le_of_ble_eq_true rfl | simp [va_cat, vcI, vcL, vcR]) dX9_uses_35 (fun H locs hM => ?_)
      refine lv_if_eq (tgt := 59) hx hb dX9_uses_38 (by decide) (fun c12 => ?_) (fun c12 => ?_)
      · rw [if_pos c12] at h
        exact wX9_uses_b59 hC hG hR Kr _ _ _ _ h hM (lv_sub hl [] rfl)
      · rw [if_neg c12] at h
        refine lv_iload hx hb dX9_uses_41 (lv_at hl 0 rfl) ?_
        refine lv_iconst (v := 2) hx hb dX9_uses_43 (by decide) ?_
        refine lv_irem hx hb dX9_uses_44 (by decide) ?_
        refine lv_if_ne (tgt := 59) hx hb dX9_uses_45 (by decide) (fun c13 => ?_) (fun c13 => ?_)
        · rw [if_neg c13] at h
          exact wX9_uses_b59 hC hG hR Kr _ _ _ _ h hM (lv_sub hl [] rfl)
        · rw [if_pos c13] at h
          refine lv_iload_n hx hb dX9_uses_48 rfl (lv_at hl 4 rfl) ?_
          refine lv_iload hx hb dX9_uses_49 (lv_at hl 0 rfl) ?_
          refine lv_iconst (v := 2) hx hb dX9_uses_51 (by decide) ?_
          refine lv_idiv hx hb dX9_uses_52 (by decide) ?_
          refine lv_iadd hx hb dX9_uses_53 ?_
          refine lv_bipush (v := 24) hx hb dX9_uses_54 (by decide) ?_
          refine lv_icmp_le (tgt := 61) hx hb dX9_uses_56 (by decide) (fun c14 => ?_) (fun c14 => ?_)
          · rw [if_pos c14] at h
            refine lv_iconst (v := 0) hx hb dX9_uses_61 (by decide) ?_
            refine lv_istore (lv' := [(5, .int 0), (4, .int t2), (0, va_rf (Option.map ad (some o0))), (1, .int x1), (2, .int x2), (3, .int x3)]) hx hb dX9_uses_62 hl (by decide) (by first | rfl | simp [va_cat]) (fun ls hl => ?_)
            exact wX9_uses_b64 hC hG hR Kr FU _ _ _ _ _ _ _ _ _ _ h hM (lv_sub hl [2, 3, 4, 5, 1, 0] rfl)
          · rw [if_neg c14] at h
            exact wX9_uses_b59 hC hG hR Kr _ _ _ _ h hM (lv_sub hl [] rfl)
theorem cX9_uses_ok {l : Launch} {D : va_G} {cy : Nat → ClassId} {ad : Nat → Nat} {A : Nat → Prop} {z : Nat} {r : Int32} {σ' : Mem} {o0 : Nat} {x1 : Int32} {x2 : Int32} {x3 : Int32} {σ : Mem} (h : fX9_uses o0 x1 x2 x3 σ = some (r, σ')) : CtI l yX9_uses cX9_uses 6 (some .int) 1 [.ref (ad o0), .int x1, .int x2, .int x3] D cy ad A z σ r σ' :=
  enterI (own := RX9) (by decide) rfl (Nat.le_of_ble_eq_true rfl) rfl (fun p e s m below meth c Q ls hC hG hM Kr hl => wX9_uses hC hG ⟨Nat.le_refl _, Nat.le_refl _⟩ Kr _ _ _ _ _ _ _ _ h hM hl)
/-! X1_part ()J -/
def fX1_part_b44  (o0 : Nat)  (σ : Mem) : Option (Int64 × Mem) :=
  (fR σ 1 1 (some o0)).bind fun t1 =>
    (aJ σ 12 t1 15).bind fun t2 =>
    some (t2, σ)
set_option maxRecDepth 20000 in
theorem wX1_part_b44 {r : Int64} {σ' : Mem} (hC : CallFix p m c cX1_part 2 s args WALL RX1) (hG : GS D cy A s) (hR : 2 ≤ R.frames ∧ 72 ≤ R.locals) (Kr : KrL p l e R s m args below meth c cX1_part Q D cy ad A z r σ')  (o0 : Nat)  (σ : Mem) (H : Heap) (locs : List Loc) (ls : Array Slot) (h : fX1_part_b44 o0 σ = some (r, σ')) (hM : MS D cy ad A s.heap z σ H locs) (hl : lv_has ls 2 [(0, va_rf (Option.map ad (some o0)))]) : W p l e R s m args below meth c H locs 0 0 Q (F0 m 44 ls []) := by
  have hx := hC.1
  have hb := hC.2.1
  unfold fX1_part_b44 at h
  refine lr_aload_n hx hb dX1_part_44 rfl (lv_at hl 0 rfl) ?_
  obtain ⟨t1, e_t1, h⟩ := bn h
  refine gf_X1_15 hC hG hM e_t1 dX1_part_45 ?_
  refine lv_bipush (v := 15) hx hb dX1_part_48 (by decide) ?_
  obtain ⟨t2, e_t2, h⟩ := bn h
  refine g_lald hx hb hG hM e_t2 dX1_part_50 ?_
  obtain ⟨rfl, rfl⟩ := Prod.mk.inj (Option.some.inj h)
  exact Kr _ _ _ _ dX1_part_51 hM
def fX1_part_b26  (o0 : Nat)  (σ : Mem) : Option (Int64 × Mem) :=
  (fR σ 1 1 (some o0)).bind fun t1 =>
    (aJ σ 12 t1 15).bind fun t2 =>
    if t2 = (-1) then fX1_part_b44 o0 σ
    else (kT σ 1 (some o0)).bind fun k4 =>
      (fX1_writeGroups k4 σ).bind fun m5 =>
      fX1_part_b44 o0 m5
set_option maxRecDepth 20000 in
theorem wX1_part_b26 {r : Int64} {σ' : Mem} (hC : CallFix p m c cX1_part 2 s args WALL RX1) (hG : GS D cy A s) (hR : 2 ≤ R.frames ∧ 72 ≤ R.locals) (Kr : KrL p l e R s m args below meth c cX1_part Q D cy ad A z r σ')  (o0 : Nat)  (σ : Mem) (H : Heap) (locs : List Loc) (ls : Array Slot) (h : fX1_part_b26 o0 σ = some (r, σ')) (hM : MS D cy ad A s.heap z σ H locs) (hl : lv_has ls 2 [(0, va_rf (Option.map ad (some o0)))]) : W p l e R s m args below meth c H locs 0 0 Q (F0 m 26 ls []) := by
  have hx := hC.1
  have hb := hC.2.1
  unfold fX1_part_b26 at h
  refine lr_aload_n hx hb dX1_part_26 rfl (lv_at hl 0 rfl) ?_
  obtain ⟨t1, e_t1, h⟩ := bn h
  refine gf_X1_15 hC hG hM e_t1 dX1_part_27 ?_
  refine lv_bipush (v := 15) hx hb dX1_part_30 (by decide) ?_
  obtain ⟨t2, e_t2, h⟩ := bn h
  refine g_lald hx hb hG hM e_t2 dX1_part_32 ?_
  refine lv_ldc2 (v := (-1)) hx hb hC.2.2.2.1 (hC.2.2.2.2 _ wk_X1_36) dX1_part_33 ?_
  refine lc_eq (tgt := 44) hx hb dX1_part_36 dX1_part_37 (by decide) (fun c3 => ?_) (fun c3 => ?_)
  · rw [if_pos c3] at h
    exact wX1_part_b44 hC hG hR Kr _ _ _ _ _ h hM (lv_sub hl [0] rfl)
  · rw [if_neg c3] at h
    refine lr_aload_n hx hb dX1_part_40 rfl (lv_at hl 0 rfl) ?_
    obtain ⟨k4, e_k4, h⟩ := bn h
    obtain ⟨m5, e_m5, h⟩ := bn h
    refine cs_X1_38 e_k4 hC hG hM (cX1_writeGroups_ok e_m5) ⟨by omega, by omega⟩ hl.1 (by first | exact Nat.le_of_ble_eq_true rfl | simp [va_cat, vcI, vcL, vcR]) dX1_part_41 (fun H locs hM => ?_)
    exact wX1_part_b44 hC hG hR Kr _ _ _ _ _ h hM (lv_sub hl [0] rfl)
def fX1_part_b9  : Nat → Nat → Int32 → Mem → Option (Int64 × Mem)
  | 0, _, _, _ => none
  | n + 1, o0, x1, σ =>
    if 15 < x1 then fX1_part_b26 o0 σ
      else (kT σ 1 (some o0)).bind fun k2 =>
        (fX1_fillLeast k2 x1 σ).bind fun m3 =>
        bd (x1 + 1) fun t4 =>
        (fX1_part_b9 n) o0 t4 m3
set_option maxRecDepth 20000 in
theorem wX1_part_b9 {r : Int64} {σ' : Mem} (hC : CallFix p m c cX1_part 2 s args WALL RX1) (hG : GS D cy A s) (hR : 2 ≤ R.frames ∧ 72 ≤ R.locals) (Kr : KrL p l e R s m args below meth c cX1_part Q D cy ad A z r σ')  : ∀ (n : Nat) (o0 : Nat) (x1 : Int32)  (σ : Mem) (H : Heap) (locs : List Loc) (ls : Array Slot), fX1_part_b9 n o0 x1 σ = some (r, σ') → MS D cy ad A s.heap z σ H locs → lv_has ls 2 [(0, va_rf (Option.map ad (some o0))), (1, .int x1)] → W p l e R s m args below meth c H locs 0 0 Q (F0 m 9 ls []) := by
  have hx := hC.1
  have hb := hC.2.1
  intro n
  induction n with
  | zero =>
    intro o0 x1 σ H locs ls h
    cases h
  | succ n ih =>
    intro o0 x1 σ H locs ls h hM hl
    rw [fX1_part_b9] at h
    refine lv_iload_n hx hb dX1_part_9 rfl (lv_at hl 1 rfl) ?_
    refine lv_bipush (v := 15) hx hb dX1_part_10 (by decide) ?_
    refine lv_icmp_gt (tgt := 26) hx hb dX1_part_12 (by decide) (fun c1 => ?_) (fun c1 => ?_)
    · rw [if_pos c1] at h
      exact wX1_part_b26 hC hG hR Kr _ _ _ _ _ h hM (lv_sub hl [0] rfl)
    · rw [if_neg c1] at h
      refine lr_aload_n hx hb dX1_part_15 rfl (lv_at hl 0 rfl) ?_
      refine lv_iload_n hx hb dX1_part_16 rfl (lv_at hl 1 rfl) ?_
      obtain ⟨k2, e_k2, h⟩ := bn h
      obtain ⟨m3, e_m3, h⟩ := bn h
      refine cs_X1_32 e_k2 hC hG hM (cX1_fillLeast_ok e_m3) ⟨by omega, by omega⟩ hl.1 (by first | exact Nat.le_of_ble_eq_true rfl | simp [va_cat, vcI, vcL, vcR]) dX1_part_17 (fun H locs hM => ?_)
      obtain ⟨t4, e_t4, h⟩ := bd_elim h
      refine lv_iinc (v := t4) (lv' := [(1, .int t4), (0, va_rf (Option.map ad (some o0)))]) hx hb dX1_part_20 hl (k := 1) rfl (by rw [e_t4]; rfl) (by decide) (by first | rfl | simp [va_cat]) (fun ls hl => ?_)
      refine lv_goto (tgt := 9) hx hb dX1_part_23 (by decide) ?_
      exact ih _ _ _ _ _ _ h hM (lv_sub hl [1, 0] rfl)
def fX1_part (o0 : Nat) (σ : Mem) : Option (Int64 × Mem) :=
  (fR σ 1 1 (some o0)).bind fun t1 =>
    (wJ σ 12 t1 0 0).bind fun m2 =>
    fX1_part_b9 FU o0 1 m2
set_option maxRecDepth 20000 in
theorem wX1_part {r : Int64} {σ' : Mem} (hC : CallFix p m c cX1_part 2 s args WALL RX1) (hG : GS D cy A s) (hR : 2 ≤ R.frames ∧ 72 ≤ R.locals) (Kr : KrL p l e R s m args below meth c cX1_part Q D cy ad A z r σ') (o0 : Nat) (σ : Mem) (H : Heap) (locs : List Loc) (ls : Array Slot) (h : fX1_part o0 σ = some (r, σ')) (hM : MS D cy ad A s.heap z σ H locs) (hl : lv_has ls 2 [(0, va_rf (Option.map ad (some o0)))]) : W p l e R s m args below meth c H locs 0 0 Q (F0 m 0 ls []) := by
  have hx := hC.1
  have hb := hC.2.1
  unfold fX1_part at h
  refine lr_aload_n hx hb dX1_part_0 rfl (lv_at hl 0 rfl) ?_
  obtain ⟨t1, e_t1, h⟩ := bn h
  refine gf_X1_15 hC hG hM e_t1 dX1_part_1 ?_
  refine lv_iconst (v := 0) hx hb dX1_part_4 (by decide) ?_
  refine lv_lconst (v := 0) hx hb dX1_part_5 (by decide) ?_
  obtain ⟨m2, e_m2, h⟩ := bn h
  refine g_last hx hb hG hM e_m2 dX1_part_6 (fun H locs hM => ?_)
  refine lv_iconst (v := 1) hx hb dX1_part_7 (by decide) ?_
  refine lv_istore_n (lv' := [(1, .int 1), (0, va_rf (Option.map ad (some o0)))]) hx hb dX1_part_8 rfl hl (by decide) (by first | rfl | simp [va_cat]) (fun ls hl => ?_)
  exact wX1_part_b9 hC hG hR Kr FU _ _ _ _ _ _ h hM (lv_sub hl [1, 0] rfl)
theorem cX1_part_ok {l : Launch} {D : va_G} {cy : Nat → ClassId} {ad : Nat → Nat} {A : Nat → Prop} {z : Nat} {r : Int64} {σ' : Mem} {o0 : Nat} {σ : Mem} (h : fX1_part o0 σ = some (r, σ')) : CtL l yX1_part cX1_part 2 (some .long) 2 [.ref (ad o0)] D cy ad A z σ r σ' :=
  enterL (own := RX1) (by decide) rfl (Nat.le_of_ble_eq_true rfl) rfl (fun p e s m below meth c Q ls hC hG hM Kr hl => wX1_part hC hG ⟨Nat.le_refl _, Nat.le_refl _⟩ Kr _ _ _ _ _ h hM hl)
/-! X2_partCents ([II)J -/
def fX2_partCents_b27   (y0 : Int64) (σ : Mem) : Option (Int64 × Mem) :=
  some (y0, σ)
set_option maxRecDepth 20000 in
theorem wX2_partCents_b27 {r : Int64} {σ' : Mem} (hC : CallFix p m c cX2_partCents 4 s args WALL RX2) (hG : GS D cy A s) (hR : 2 ≤ R.frames ∧ 72 ≤ R.locals) (Kr : KrL p l e R s m args below meth c cX2_partCents Q D cy ad A z r σ')   (y0 : Int64) (σ : Mem) (H : Heap) (locs : List Loc) (ls : Array Slot) (h : fX2_partCents_b27 y0 σ = some (r, σ')) (hM : MS D cy ad A s.heap z σ H locs) (hl : lv_has ls 4 []) : W p l e R s m args below meth c H locs 0 0 Q (F0 m 27 ls [.long y0]) := by
  have hx := hC.1
  have hb := hC.2.1
  unfold fX2_partCents_b27 at h
  obtain ⟨rfl, rfl⟩ := Prod.mk.inj (Option.some.inj h)
  exact Kr _ _ _ _ dX2_partCents_27 hM
def fX2_partCents_b16    (σ : Mem) : Option (Int64 × Mem) :=
  fX2_partCents_b27 0 σ
set_option maxRecDepth 20000 in
theorem wX2_partCents_b16 {r : Int64} {σ' : Mem} (hC : CallFix p m c cX2_partCents 4 s args WALL RX2) (hG : GS D cy A s) (hR : 2 ≤ R.frames ∧ 72 ≤ R.locals) (Kr : KrL p l e R s m args below meth c cX2_partCents Q D cy ad A z r σ')    (σ : Mem) (H : Heap) (locs : List Loc) (ls : Array Slot) (h : fX2_partCents_b16  σ = some (r, σ')) (hM : MS D cy ad A s.heap z σ H locs) (hl : lv_has ls 4 []) : W p l e R s m args below meth c H locs 0 0 Q (F0 m 16 ls []) := by
  have hx := hC.1
  have hb := hC.2.1
  unfold fX2_partCents_b16 at h
  refine lv_lconst (v := 0) hx hb dX2_partCents_16 (by decide) ?_
  refine lv_goto (tgt := 27) hx hb dX2_partCents_17 (by decide) ?_
  exact wX2_partCents_b27 hC hG hR Kr _ _ _ _ _ h hM (lv_sub hl [] rfl)
def fX2_partCents (o0 : Nat) (x1 : Option Nat) (x2 : Int32) (σ : Mem) : Option (Int64 × Mem) :=
  (kT σ 2 (some o0)).bind fun k1 =>
    b2 (fX2_partFor k1 x2 σ) fun t2 m3 =>
    if t2 = none then fX2_partCents_b16 m3
    else (aL m3 11 x1).bind fun t5 =>
      if x2 < t5 then (aI m3 11 x1 x2).bind fun t7 =>
        (kT m3 0 t2).bind fun k8 =>
        b2 (fX0_centsFor k8 t7 m3) fun t9 m10 =>
        fX2_partCents_b27 t9 m10
      else fX2_partCents_b16 m3
set_option maxRecDepth 20000 in
theorem wX2_partCents {r : Int64} {σ' : Mem} (hC : CallFix p m c cX2_partCents 4 s args WALL RX2) (hG : GS D cy A s) (hR : 2 ≤ R.frames ∧ 72 ≤ R.locals) (Kr : KrL p l e R s m args below meth c cX2_partCents Q D cy ad A z r σ') (o0 : Nat) (x1 : Option Nat) (x2 : Int32) (σ : Mem) (H : Heap) (locs : List Loc) (ls : Array Slot) (h : fX2_partCents o0 x1 x2 σ = some (r, σ')) (hM : MS D cy ad A s.heap z σ H locs) (hl : lv_has ls 4 [(0, va_rf (Option.map ad (some o0))), (1, va_rf (Option.map ad x1)), (2, .int x2)]) : W p l e R s m args below meth c H locs 0 0 Q (F0 m 0 ls []) := by
  have hx := hC.1
  have hb := hC.2.1
  unfold fX2_partCents at h
  refine lr_aload_n hx hb dX2_partCents_0 rfl (lv_at hl 0 rfl) ?_
  refine lv_iload_n hx hb dX2_partCents_1 rfl (lv_at hl 2 rfl) ?_
  obtain ⟨k1, e_k1, h⟩ := bn h
  obtain ⟨t2, m3, e_m3, h⟩ := b2_elim h
  refine cs_X2_49 e_k1 hC hG hM (cX2_partFor_ok e_m3) ⟨by omega, by omega⟩ hl.1 (by first | exact Nat.le_of_ble_eq_true rfl | simp [va_cat, vcI, vcL, vcR]) dX2_partCents_2 (fun H locs hM => ?_)
  refine lr_astore_n (lv' := [(3, va_rf (Option.map ad t2)), (0, va_rf (Option.map ad (some o0))), (1, va_rf (Option.map ad x1)), (2, .int x2)]) hx hb dX2_partCents_5 rfl hl (by decide) (by first | rfl | simp [va_cat]) (fun ls hl => ?_)
  refine lr_aload_n hx hb dX2_partCents_6 rfl (lv_at hl 0 rfl) ?_
  refine lr_ifnull (tgt := 16) hx hb dX2_partCents_7 (by decide) (fun c4 => ?_) (fun c4 => ?_)
  · rw [if_pos c4] at h
    exact wX2_partCents_b16 hC hG hR Kr _ _ _ _ h hM (lv_sub hl [] rfl)
  · rw [if_neg c4] at h
    refine lv_iload_n hx hb dX2_partCents_10 rfl (lv_at hl 3 rfl) ?_
    refine lr_aload_n hx hb dX2_partCents_11 rfl (lv_at hl 2 rfl) ?_
    obtain ⟨t5, e_t5, h⟩ := bn h
    refine g_alen (kA := 11) (by decide) hx hb hG hM e_t5 dX2_partCents_12 ?_
    refine lv_icmp_lt (tgt := 20) hx hb dX2_partCents_13 (by decide) (fun c6 => ?_) (fun c6 => ?_)
    · rw [if_pos c6] at h
      refine lr_aload_n hx hb dX2_partCents_20 rfl (lv_at hl 0 rfl) ?_
      refine lr_aload_n hx hb dX2_partCents_21 rfl (lv_at hl 2 rfl) ?_
      refine lv_iload_n hx hb dX2_partCents_22 rfl (lv_at hl 3 rfl) ?_
      obtain ⟨t7, e_t7, h⟩ := bn h
      refine g_iald hx hb hG hM e_t7 dX2_partCents_23 ?_
      obtain ⟨k8, e_k8, h⟩ := bn h
      obtain ⟨t9, m10, e_m10, h⟩ := b2_elim h
      refine cs_X2_53 e_k8 hC hG hM (cX0_centsFor_ok e_m10) ⟨by omega, by omega⟩ hl.1 (by first | exact Nat.le_of_ble_eq_true rfl | simp [va_cat, vcI, vcL, vcR]) dX2_partCents_24 (fun H locs hM => ?_)
      exact wX2_partCents_b27 hC hG hR Kr _ _ _ _ _ h hM (lv_sub hl [] rfl)
    · rw [if_neg c6] at h
      exact wX2_partCents_b16 hC hG hR Kr _ _ _ _ h hM (lv_sub hl [] rfl)
theorem cX2_partCents_ok {l : Launch} {D : va_G} {cy : Nat → ClassId} {ad : Nat → Nat} {A : Nat → Prop} {z : Nat} {r : Int64} {σ' : Mem} {o0 : Nat} {x1 : Option Nat} {x2 : Int32} {σ : Mem} (h : fX2_partCents o0 x1 x2 σ = some (r, σ')) : CtL l yX2_partCents cX2_partCents 4 (some .long) 2 [.ref (ad o0), va_rf (Option.map ad x1), .int x2] D cy ad A z σ r σ' :=
  enterL (own := RX2) (by decide) rfl (by simp [lg_sl, va_cat, vcI, vcL, vcR]) rfl (fun p e s m below meth c Q ls hC hG hM Kr hl => wX2_partCents hC hG ⟨Nat.le_refl _, Nat.le_refl _⟩ Kr _ _ _ _ _ _ _ h hM (by simp [lv_args, va_cat, vcI, vcL, vcR] at hl; exact hl))
/-! X4_putInPlan (I)V -/
def fX4_putInPlan_b118    (σ : Mem) : Option (Mem) :=
  some σ
set_option maxRecDepth 20000 in
theorem wX4_putInPlan_b118 {σ' : Mem} (hC : CallFix p m c cX4_putInPlan 2 s args WALL RX4) (hG : GS D cy A s) (hR : 2 ≤ R.frames ∧ 72 ≤ R.locals) (Kr : KrV p l e R s m args below meth c cX4_putInPlan Q D cy ad A z () σ')    (σ : Mem) (H : Heap) (locs : List Loc) (ls : Array Slot) (h : fX4_putInPlan_b118  σ = some σ') (hM : MS D cy ad A s.heap z σ H locs) (hl : lv_has ls 2 []) : W p l e R s m args below meth c H locs 0 0 Q (F0 m 118 ls []) := by
  have hx := hC.1
  have hb := hC.2.1
  unfold fX4_putInPlan_b118 at h
  cases h
  exact Kr _ _ _ _ dX4_putInPlan_118 hM
def fX4_putInPlan (o0 : Nat) (x1 : Int32) (σ : Mem) : Option (Mem) :=
  (fR σ 4 2 (some o0)).bind fun t1 =>
    if t1 = none then some σ
    else (if x1 = 1 then (fR σ 4 2 (some o0)).bind fun t4 =>
        (fI σ 4 10 (some o0)).bind fun t5 =>
        (pI σ 2 3 t4 t5).bind fun m6 =>
        fX4_putInPlan_b118 m6 else if x1 = 2 then (fR σ 4 2 (some o0)).bind fun t8 =>
          (fI σ 4 10 (some o0)).bind fun t9 =>
          (pI σ 2 4 t8 t9).bind fun m10 =>
          fX4_putInPlan_b118 m10 else if x1 = 3 then (fR σ 4 2 (some o0)).bind fun t12 =>
            (fI σ 4 10 (some o0)).bind fun t13 =>
            (pI σ 2 5 t12 t13).bind fun m14 =>
            fX4_putInPlan_b118 m14 else if x1 = 4 then (fR σ 4 2 (some o0)).bind fun t16 =>
              (fI σ 4 10 (some o0)).bind fun t17 =>
              (pI σ 2 6 t16 t17).bind fun m18 =>
              fX4_putInPlan_b118 m18 else if x1 = 5 then (fR σ 4 2 (some o0)).bind fun t20 =>
                (fI σ 4 10 (some o0)).bind fun t21 =>
                (kT σ 2 t20).bind fun k22 =>
                b2 (fX2_addPart k22 t21 σ) fun t23 m24 =>
                (pR m24 4 3 (some o0) t23).bind fun m25 =>
                fX4_putInPlan_b118 m25 else fX4_putInPlan_b118 σ)
set_option maxRecDepth 20000 in
theorem wX4_putInPlan {σ' : Mem} (hC : CallFix p m c cX4_putInPlan 2 s args WALL RX4) (hG : GS D cy A s) (hR : 2 ≤ R.frames ∧ 72 ≤ R.locals) (Kr : KrV p l e R s m args below meth c cX4_putInPlan Q D cy ad A z () σ') (o0 : Nat) (x1 : Int32) (σ : Mem) (H : Heap) (locs : List Loc) (ls : Array Slot) (h : fX4_putInPlan o0 x1 σ = some σ') (hM : MS D cy ad A s.heap z σ H locs) (hl : lv_has ls 2 [(0, va_rf (Option.map ad (some o0))), (1, .int x1)]) : W p l e R s m args below meth c H locs 0 0 Q (F0 m 0 ls []) := by
  have hx := hC.1
  have hb := hC.2.1
  unfold fX4_putInPlan at h
  refine lr_aload_n hx hb dX4_putInPlan_0 rfl (lv_at hl 0 rfl) ?_
  obtain ⟨t1, e_t1, h⟩ := bn h
  refine gf_X4_56 hC hG hM e_t1 dX4_putInPlan_1 ?_
  refine lr_ifnonnull (tgt := 8) hx hb dX4_putInPlan_4 (by decide) (fun c2 => ?_) (fun c2 => ?_)
  · rw [if_neg c2] at h
    refine lv_iload_n hx hb dX4_putInPlan_8 rfl (lv_at hl 1 rfl) ?_
    by_cases c3 : x1 = 1
    · rw [if_pos c3] at h
      refine lv_tableIn (tgt := 44) hx hb dX4_putInPlan_9 (by rw [c3]; decide) (by rw [c3]; decide) (by rw [c3]; rfl) (by decide) ?_
      refine lr_aload_n hx hb dX4_putInPlan_44 rfl (lv_at hl 0 rfl) ?_
      obtain ⟨t4, e_t4, h⟩ := bn h
      refine gf_X4_56 hC hG hM e_t4 dX4_putInPlan_45 ?_
      refine lr_aload_n hx hb dX4_putInPlan_48 rfl (lv_at hl 0 rfl) ?_
      obtain ⟨t5, e_t5, h⟩ := bn h
      refine gf_X4_94 hC hG hM e_t5 dX4_putInPlan_49 ?_
      obtain ⟨m6, e_m6, h⟩ := bn h
      refine pf_X4_127 hC hG hM e_m6 dX4_putInPlan_52 (fun H locs hM => ?_)
      refine lv_goto (tgt := 118) hx hb dX4_putInPlan_55 (by decide) ?_
      exact wX4_putInPlan_b118 hC hG hR Kr _ _ _ _ h hM (lv_sub hl [] rfl)
    · rw [if_neg c3] at h
      by_cases c7 : x1 = 2
      · rw [if_pos c7] at h
        refine lv_tableIn (tgt := 58) hx hb dX4_putInPlan_9 (by rw [c7]; decide) (by rw [c7]; decide) (by rw [c7]; rfl) (by decide) ?_
        refine lr_aload_n hx hb dX4_putInPlan_58 rfl (lv_at hl 0 rfl) ?_
        obtain ⟨t8, e_t8, h⟩ := bn h
        refine gf_X4_56 hC hG hM e_t8 dX4_putInPlan_59 ?_
        refine lr_aload_n hx hb dX4_putInPlan_62 rfl (lv_at hl 0 rfl) ?_
        obtain ⟨t9, e_t9, h⟩ := bn h
        refine gf_X4_94 hC hG hM e_t9 dX4_putInPlan_63 ?_
        obtain ⟨m10, e_m10, h⟩ := bn h
        refine pf_X4_130 hC hG hM e_m10 dX4_putInPlan_66 (fun H locs hM => ?_)
        refine lv_goto (tgt := 118) hx hb dX4_putInPlan_69 (by decide) ?_
        exact wX4_putInPlan_b118 hC hG hR Kr _ _ _ _ h hM (lv_sub hl [] rfl)
      · rw [if_neg c7] at h
        by_cases c11 : x1 = 3
        · rw [if_pos c11] at h
          refine lv_tableIn (tgt := 72) hx hb dX4_putInPlan_9 (by rw [c11]; decide) (by rw [c11]; decide) (by rw [c11]; rfl) (by decide) ?_
          refine lr_aload_n hx hb dX4_putInPlan_72 rfl (lv_at hl 0 rfl) ?_
          obtain ⟨t12, e_t12, h⟩ := bn h
          refine gf_X4_56 hC hG hM e_t12 dX4_putInPlan_73 ?_
          refine lr_aload_n hx hb dX4_putInPlan_76 rfl (lv_at hl 0 rfl) ?_
          obtain ⟨t13, e_t13, h⟩ := bn h
          refine gf_X4_94 hC hG hM e_t13 dX4_putInPlan_77 ?_
          obtain ⟨m14, e_m14, h⟩ := bn h
          refine pf_X4_119 hC hG hM e_m14 dX4_putInPlan_80 (fun H locs hM => ?_)
          refine lv_goto (tgt := 118) hx hb dX4_putInPlan_83 (by decide) ?_
          exact wX4_putInPlan_b118 hC hG hR Kr _ _ _ _ h hM (lv_sub hl [] rfl)
        · rw [if_neg c11] at h
          by_cases c15 : x1 = 4
          · rw [if_pos c15] at h
            refine lv_tableIn (tgt := 86) hx hb dX4_putInPlan_9 (by rw [c15]; decide) (by rw [c15]; decide) (by rw [c15]; rfl) (by decide) ?_
            refine lr_aload_n hx hb dX4_putInPlan_86 rfl (lv_at hl 0 rfl) ?_
            obtain ⟨t16, e_t16, h⟩ := bn h
            refine gf_X4_56 hC hG hM e_t16 dX4_putInPlan_87 ?_
            refine lr_aload_n hx hb dX4_putInPlan_90 rfl (lv_at hl 0 rfl) ?_
            obtain ⟨t17, e_t17, h⟩ := bn h
            refine gf_X4_94 hC hG hM e_t17 dX4_putInPlan_91 ?_
            obtain ⟨m18, e_m18, h⟩ := bn h
            refine pf_X4_133 hC hG hM e_m18 dX4_putInPlan_94 (fun H locs hM => ?_)
            refine lv_goto (tgt := 118) hx hb dX4_putInPlan_97 (by decide) ?_
            exact wX4_putInPlan_b118 hC hG hR Kr _ _ _ _ h hM (lv_sub hl [] rfl)
          · rw [if_neg c15] at h
            by_cases c19 : x1 = 5
            · rw [if_pos c19] at h
              refine lv_tableIn (tgt := 100) hx hb dX4_putInPlan_9 (by rw [c19]; decide) (by rw [c19]; decide) (by rw [c19]; rfl) (by decide) ?_
              refine lr_aload_n hx hb dX4_putInPlan_100 rfl (lv_at hl 0 rfl) ?_
              refine lr_aload_n hx hb dX4_putInPlan_101 rfl (lv_at hl 0 rfl) ?_
              obtain ⟨t20, e_t20, h⟩ := bn h
              refine gf_X4_56 hC hG hM e_t20 dX4_putInPlan_102 ?_
              refine lr_aload_n hx hb dX4_putInPlan_105 rfl (lv_at hl 0 rfl) ?_
              obtain ⟨t21, e_t21, h⟩ := bn h
              refine gf_X4_94 hC hG hM e_t21 dX4_putInPlan_106 ?_
              obtain ⟨k22, e_k22, h⟩ := bn h
              obtain ⟨t23, m24, e_m24, h⟩ := b2_elim h
              refine cs_X4_136 e_k22 hC hG hM (cX2_addPart_ok e_m24) ⟨by omega, by omega⟩ hl.1 (by first | exact Nat.le_of_ble_eq_true rfl | simp [va_cat, vcI, vcL, vcR]) dX4_putInPlan_109 (fun H locs hM => ?_)
              obtain ⟨m25, e_m25, h⟩ := bn h
              refine pf_X4_63 hC hG hM e_m25 dX4_putInPlan_112 (fun H locs hM => ?_)
              refine lv_goto (tgt := 118) hx hb dX4_putInPlan_115 (by decide) ?_
              exact wX4_putInPlan_b118 hC hG hR Kr _ _ _ _ h hM (lv_sub hl [] rfl)
            · rw [if_neg c19] at h
              refine lv_tableOut (tgt := 118) hx hb dX4_putInPlan_9 (by have n_c3 := lv_neT c3 (show (1 : Int32).toInt = 1 from rfl); have n_c7 := lv_neT c7 (show (2 : Int32).toInt = 2 from rfl); have n_c11 := lv_neT c11 (show (3 : Int32).toInt = 3 from rfl); have n_c15 := lv_neT c15 (show (4 : Int32).toInt = 4 from rfl); have n_c19 := lv_neT c19 (show (5 : Int32).toInt = 5 from rfl); omega) (by decide) ?_
              exact wX4_putInPlan_b118 hC hG hR Kr _ _ _ _ h hM (lv_sub hl [] rfl)
  · rw [if_pos c2] at h
    cases h
    exact Kr _ _ _ _ dX4_putInPlan_7 hM
theorem cX4_putInPlan_ok {l : Launch} {D : va_G} {cy : Nat → ClassId} {ad : Nat → Nat} {A : Nat → Prop} {z : Nat} {σ' : Mem} {o0 : Nat} {x1 : Int32} {σ : Mem} (h : fX4_putInPlan o0 x1 σ = some σ') : CtV l yX4_putInPlan cX4_putInPlan 2 none 2 [.ref (ad o0), .int x1] D cy ad A z σ () σ' :=
  enterV (own := RX4) (by decide) rfl (Nat.le_of_ble_eq_true rfl) rfl (fun p e s m below meth c Q ls hC hG hM Kr hl => wX4_putInPlan hC hG ⟨Nat.le_refl _, Nat.le_refl _⟩ Kr _ _ _ _ _ _ h hM hl)
/-! X4_scan ()V -/
def fX4_scan_b139    (σ : Mem) : Option (Mem) :=
  some σ
set_option maxRecDepth 20000 in
theorem wX4_scan_b139 {σ' : Mem} (hC : CallFix p m c cX4_scan 2 s args WALL RX4) (hG : GS D cy A s) (hR : 2 ≤ R.frames ∧ 72 ≤ R.locals) (Kr : KrV p l e R s m args below meth c cX4_scan Q D cy ad A z () σ')    (σ : Mem) (H : Heap) (locs : List Loc) (ls : Array Slot) (h : fX4_scan_b139  σ = some σ') (hM : MS D cy ad A s.heap z σ H locs) (hl : lv_has ls 2 []) : W p l e R s m args below meth c H locs 0 0 Q (F0 m 139 ls []) := by
  have hx := hC.1
  have hb := hC.2.1
  unfold fX4_scan_b139 at h
  cases h
  exact Kr _ _ _ _ dX4_scan_139 hM
def fX4_scan_b88  (o0 : Nat) (x1 : Int32)  (σ : Mem) : Option (Mem) :=
  (fR σ 4 0 (some o0)).bind fun t1 =>
    (fI σ 6 1 t1).bind fun t2 =>
    if x1 < t2 then (fR σ 4 0 (some o0)).bind fun t4 =>
      (kT σ 6 t4).bind fun k5 =>
      b2 (fX6_byteAt k5 x1 σ) fun t6 m7 =>
      if t6 = 59 then (pI m7 4 11 (some o0) 10).bind fun m11 =>
        (pI m11 4 8 (some o0) 1).bind fun m12 =>
        fX4_scan_b139 m12
      else (kT m7 4 (some o0)).bind fun k9 =>
        (fX4_scanRun k9 m7).bind fun m10 =>
        fX4_scan_b139 m10
    else (pI σ 4 11 (some o0) 11).bind fun m13 =>
      fX4_scan_b139 m13
set_option maxRecDepth 20000 in
theorem wX4_scan_b88 {σ' : Mem} (hC : CallFix p m c cX4_scan 2 s args WALL RX4) (hG : GS D cy A s) (hR : 2 ≤ R.frames ∧ 72 ≤ R.locals) (Kr : KrV p l e R s m args below meth c cX4_scan Q D cy ad A z () σ')  (o0 : Nat) (x1 : Int32)  (σ : Mem) (H : Heap) (locs : List Loc) (ls : Array Slot) (h : fX4_scan_b88 o0 x1 σ = some σ') (hM : MS D cy ad A s.heap z σ H locs) (hl : lv_has ls 2 [(0, va_rf (Option.map ad (some o0))), (1, .int x1)]) : W p l e R s m args below meth c H locs 0 0 Q (F0 m 88 ls []) := by
  have hx := hC.1
  have hb := hC.2.1
  unfold fX4_scan_b88 at h
  refine lv_iload_n hx hb dX4_scan_88 rfl (lv_at hl 1 rfl) ?_
  refine lr_aload_n hx hb dX4_scan_89 rfl (lv_at hl 0 rfl) ?_
  obtain ⟨t1, e_t1, h⟩ := bn h
  refine gf_X4_9 hC hG hM e_t1 dX4_scan_90 ?_
  obtain ⟨t2, e_t2, h⟩ := bn h
  refine gf_X4_154 hC hG hM e_t2 dX4_scan_93 ?_
  refine lv_icmp_lt (tgt := 108) hx hb dX4_scan_96 (by decide) (fun c3 => ?_) (fun c3 => ?_)
  · rw [if_pos c3] at h
    refine lr_aload_n hx hb dX4_scan_108 rfl (lv_at hl 0 rfl) ?_
    obtain ⟨t4, e_t4, h⟩ := bn h
    refine gf_X4_9 hC hG hM e_t4 dX4_scan_109 ?_
    refine lv_iload_n hx hb dX4_scan_112 rfl (lv_at hl 1 rfl) ?_
    obtain ⟨k5, e_k5, h⟩ := bn h
    obtain ⟨t6, m7, e_m7, h⟩ := b2_elim h
    refine cs_X4_159 e_k5 hC hG hM (cX6_byteAt_ok e_m7) ⟨by omega, by omega⟩ hl.1 (by first | exact Nat.le_of_ble_eq_true rfl | simp [va_cat, vcI, vcL, vcR]) dX4_scan_113 (fun H locs hM => ?_)
    refine lv_bipush (v := 59) hx hb dX4_scan_116 (by decide) ?_
    refine lv_icmp_ne (tgt := 135) hx hb dX4_scan_118 (by decide) (fun c8 => ?_) (fun c8 => ?_)
    · rw [if_neg c8] at h
      refine lr_aload_n hx hb dX4_scan_135 rfl (lv_at hl 0 rfl) ?_
      obtain ⟨k9, e_k9, h⟩ := bn h
      obtain ⟨m10, e_m10, h⟩ := bn h
      refine cs_X4_171 e_k9 hC hG hM (cX4_scanRun_ok e_m10) ⟨by omega, by omega⟩ hl.1 (by first | exact Nat.le_of_ble_eq_true rfl | simp [va_cat, vcI, vcL, vcR]) dX4_scan_136 (fun H locs hM => ?_)
      exact wX4_scan_b139 hC hG hR Kr _ _ _ _ h hM (lv_sub hl [] rfl)
    · rw [if_pos c8] at h
      refine lr_aload_n hx hb dX4_scan_121 rfl (lv_at hl 0 rfl) ?_
      refine lv_bipush (v := 10) hx hb dX4_scan_122 (by decide) ?_
      obtain ⟨m11, e_m11, h⟩ := bn h
      refine pf_X4_45 hC hG hM e_m11 dX4_scan_124 (fun H locs hM => ?_)
      refine lr_aload_n hx hb dX4_scan_127 rfl (lv_at hl 0 rfl) ?_
      refine lv_iconst (v := 1) hx hb dX4_scan_128 (by decide) ?_
      obtain ⟨m12, e_m12, h⟩ := bn h
      refine pf_X4_32 hC hG hM e_m12 dX4_scan_129 (fun H locs hM => ?_)
      refine lv_goto (tgt := 139) hx hb dX4_scan_132 (by decide) ?_
      exact wX4_scan_b139 hC hG hR Kr _ _ _ _ h hM (lv_sub hl [] rfl)
  · rw [if_neg c3] at h
    refine lr_aload_n hx hb dX4_scan_99 rfl (lv_at hl 0 rfl) ?_
    refine lv_bipush (v := 11) hx hb dX4_scan_100 (by decide) ?_
    obtain ⟨m13, e_m13, h⟩ := bn h
    refine pf_X4_45 hC hG hM e_m13 dX4_scan_102 (fun H locs hM => ?_)
    refine lv_goto (tgt := 139) hx hb dX4_scan_105 (by decide) ?_
    exact wX4_scan_b139 hC hG hR Kr _ _ _ _ h hM (lv_sub hl [] rfl)
def fX4_scan_b41  (o0 : Nat) (x1 : Int32)  (σ : Mem) : Option (Mem) :=
  (pI σ 4 7 (some o0) (if 800 < x1 then 800 else x1)).bind fun m1 =>
    (pI m1 4 8 (some o0) 0).bind fun m2 =>
    (pI m2 4 6 (some o0) (-1)).bind fun m3 =>
    (pI m3 4 11 (some o0) (-1)).bind fun m4 =>
    if x1 < 800 then fX4_scan_b88 o0 x1 m4
    else (fR m4 4 0 (some o0)).bind fun t6 =>
      (fI m4 6 1 t6).bind fun t7 =>
      if t7 ≤ 800 then fX4_scan_b88 o0 x1 m4
      else some m4
set_option maxRecDepth 20000 in
theorem wX4_scan_b41 {σ' : Mem} (hC : CallFix p m c cX4_scan 2 s args WALL RX4) (hG : GS D cy A s) (hR : 2 ≤ R.frames ∧ 72 ≤ R.locals) (Kr : KrV p l e R s m args below meth c cX4_scan Q D cy ad A z () σ')  (o0 : Nat) (x1 : Int32)  (σ : Mem) (H : Heap) (locs : List Loc) (ls : Array Slot) (h : fX4_scan_b41 o0 x1 σ = some σ') (hM : MS D cy ad A s.heap z σ H locs) (hl : lv_has ls 2 [(0, va_rf (Option.map ad (some o0))), (1, .int x1)]) : W p l e R s m args below meth c H locs 0 0 Q (F0 m 41 ls []) := by
  have hx := hC.1
  have hb := hC.2.1
  unfold fX4_scan_b41 at h
  refine lr_aload_n hx hb dX4_scan_41 rfl (lv_at hl 0 rfl) ?_
  refine lv_iload_n hx hb dX4_scan_42 rfl (lv_at hl 1 rfl) ?_
  refine lv_sipush (v := 800) hx hb dX4_scan_43 (by decide) ?_
  refine mm_X4_165 hC (by omega) (by simp [va_cat, vcI, vcL, vcR] <;> omega) dX4_scan_46 hl.1 ?_
  obtain ⟨m1, e_m1, h⟩ := bn h
  refine pf_X4_29 hC hG hM e_m1 dX4_scan_49 (fun H locs hM => ?_)
  refine lr_aload_n hx hb dX4_scan_52 rfl (lv_at hl 0 rfl) ?_
  refine lv_iconst (v := 0) hx hb dX4_scan_53 (by decide) ?_
  obtain ⟨m2, e_m2, h⟩ := bn h
  refine pf_X4_32 hC hG hM e_m2 dX4_scan_54 (fun H locs hM => ?_)
  refine lr_aload_n hx hb dX4_scan_57 rfl (lv_at hl 0 rfl) ?_
  refine lv_iconst (v := (-1)) hx hb dX4_scan_58 (by decide) ?_
  obtain ⟨m3, e_m3, h⟩ := bn h
  refine pf_X4_75 hC hG hM e_m3 dX4_scan_59 (fun H locs hM => ?_)
  refine lr_aload_n hx hb dX4_scan_62 rfl (lv_at hl 0 rfl) ?_
  refine lv_iconst (v := (-1)) hx hb dX4_scan_63 (by decide) ?_
  obtain ⟨m4, e_m4, h⟩ := bn h
  refine pf_X4_45 hC hG hM e_m4 dX4_scan_64 (fun H locs hM => ?_)
  refine lv_iload_n hx hb dX4_scan_67 rfl (lv_at hl 1 rfl) ?_
  refine lv_sipush (v := 800) hx hb dX4_scan_68 (by decide) ?_
  refine lv_icmp_lt (tgt := 88) hx hb dX4_scan_71 (by decide) (fun c5 => ?_) (fun c5 => ?_)
  · rw [if_pos c5] at h
    exact wX4_scan_b88 hC hG hR Kr _ _ _ _ _ _ h hM (lv_sub hl [0, 1] rfl)
  · rw [if_neg c5] at h
    refine lr_aload_n hx hb dX4_scan_74 rfl (lv_at hl 0 rfl) ?_
    obtain ⟨t6, e_t6, h⟩ := bn h
    refine gf_X4_9 hC hG hM e_t6 dX4_scan_75 ?_
    obtain ⟨t7, e_t7, h⟩ := bn h
    refine gf_X4_154 hC hG hM e_t7 dX4_scan_78 ?_
    refine lv_sipush (v := 800) hx hb dX4_scan_81 (by decide) ?_
    refine lv_icmp_le (tgt := 88) hx hb dX4_scan_84 (by decide) (fun c8 => ?_) (fun c8 => ?_)
    · rw [if_pos c8] at h
      exact wX4_scan_b88 hC hG hR Kr _ _ _ _ _ _ h hM (lv_sub hl [0, 1] rfl)
    · rw [if_neg c8] at h
      cases h
      exact Kr _ _ _ _ dX4_scan_87 hM
def fX4_scan_b10  : Nat → Nat → Int32 → Mem → Option (Mem)
  | 0, _, _, _ => none
  | n + 1, o0, x1, σ =>
    (fR σ 4 0 (some o0)).bind fun t1 =>
      (fI σ 6 1 t1).bind fun t2 =>
      if t2 ≤ x1 then fX4_scan_b41 o0 x1 σ
      else (fR σ 4 0 (some o0)).bind fun t4 =>
        (kT σ 6 t4).bind fun k5 =>
        b2 (fX6_byteAt k5 x1 σ) fun t6 m7 =>
        b2 (fX4_isBlank t6 m7) fun t8 m9 =>
        if t8 = 0 then fX4_scan_b41 o0 x1 m9
        else bd (x1 + 1) fun t11 =>
          (fX4_scan_b10 n) o0 t11 m9
set_option maxRecDepth 20000 in
theorem wX4_scan_b10 {σ' : Mem} (hC : CallFix p m c cX4_scan 2 s args WALL RX4) (hG : GS D cy A s) (hR : 2 ≤ R.frames ∧ 72 ≤ R.locals) (Kr : KrV p l e R s m args below meth c cX4_scan Q D cy ad A z () σ')  : ∀ (n : Nat) (o0 : Nat) (x1 : Int32)  (σ : Mem) (H : Heap) (locs : List Loc) (ls : Array Slot), fX4_scan_b10 n o0 x1 σ = some σ' → MS D cy ad A s.heap z σ H locs → lv_has ls 2 [(0, va_rf (Option.map ad (some o0))), (1, .int x1)] → W p l e R s m args below meth c H locs 0 0 Q (F0 m 10 ls []) := by
  have hx := hC.1
  have hb := hC.2.1
  intro n
  induction n with
  | zero =>
    intro o0 x1 σ H locs ls h
    cases h
  | succ n ih =>
    intro o0 x1 σ H locs ls h hM hl
    rw [fX4_scan_b10] at h
    refine lv_iload_n hx hb dX4_scan_10 rfl (lv_at hl 1 rfl) ?_
    refine lr_aload_n hx hb dX4_scan_11 rfl (lv_at hl 0 rfl) ?_
    obtain ⟨t1, e_t1, h⟩ := bn h
    refine gf_X4_9 hC hG hM e_t1 dX4_scan_12 ?_
    obtain ⟨t2, e_t2, h⟩ := bn h
    refine gf_X4_154 hC hG hM e_t2 dX4_scan_15 ?_
    refine lv_icmp_ge (tgt := 41) hx hb dX4_scan_18 (by decide) (fun c3 => ?_) (fun c3 => ?_)
    · rw [if_pos c3] at h
      exact wX4_scan_b41 hC hG hR Kr _ _ _ _ _ _ h hM (lv_sub hl [0, 1] rfl)
    · rw [if_neg c3] at h
      refine lr_aload_n hx hb dX4_scan_21 rfl (lv_at hl 0 rfl) ?_
      obtain ⟨t4, e_t4, h⟩ := bn h
      refine gf_X4_9 hC hG hM e_t4 dX4_scan_22 ?_
      refine lv_iload_n hx hb dX4_scan_25 rfl (lv_at hl 1 rfl) ?_
      obtain ⟨k5, e_k5, h⟩ := bn h
      obtain ⟨t6, m7, e_m7, h⟩ := b2_elim h
      refine cs_X4_159 e_k5 hC hG hM (cX6_byteAt_ok e_m7) ⟨by omega, by omega⟩ hl.1 (by first | exact Nat.le_of_ble_eq_true rfl | simp [va_cat, vcI, vcL, vcR]) dX4_scan_26 (fun H locs hM => ?_)
      obtain ⟨t8, m9, e_m9, h⟩ := b2_elim h
      refine cs_X4_162 hC hG hM (cX4_isBlank_ok e_m9) ⟨by omega, by omega⟩ hl.1 (by first | exact Nat.le_of_ble_eq_true rfl | simp [va_cat, vcI, vcL, vcR]) dX4_scan_29 (fun H locs hM => ?_)
      refine lv_if_eq (tgt := 41) hx hb dX4_scan_32 (by decide) (fun c10 => ?_) (fun c10 => ?_)
      · rw [if_pos c10] at h
        exact wX4_scan_b41 hC hG hR Kr _ _ _ _ _ _ h hM (lv_sub hl [0, 1] rfl)
      · rw [if_neg c10] at h
        obtain ⟨t11, e_t11, h⟩ := bd_elim h
        refine lv_iinc (v := t11) (lv' := [(1, .int t11), (0, va_rf (Option.map ad (some o0)))]) hx hb dX4_scan_35 hl (k := 1) rfl (by rw [e_t11]; rfl) (by decide) (by first | rfl | simp [va_cat]) (fun ls hl => ?_)
        refine lv_goto (tgt := 10) hx hb dX4_scan_38 (by decide) ?_
        exact ih _ _ _ _ _ _ h hM (lv_sub hl [1, 0] rfl)
def fX4_scan (o0 : Nat) (σ : Mem) : Option (Mem) :=
  (fI σ 4 7 (some o0)).bind fun t1 =>
    (fI σ 4 8 (some o0)).bind fun t2 =>
    bd (t1 + t2) fun t3 =>
    fX4_scan_b10 FU o0 t3 σ
set_option maxRecDepth 20000 in
theorem wX4_scan {σ' : Mem} (hC : CallFix p m c cX4_scan 2 s args WALL RX4) (hG : GS D cy A s) (hR : 2 ≤ R.frames ∧ 72 ≤ R.locals) (Kr : KrV p l e R s m args below meth c cX4_scan Q D cy ad A z () σ') (o0 : Nat) (σ : Mem) (H : Heap) (locs : List Loc) (ls : Array Slot) (h : fX4_scan o0 σ = some σ') (hM : MS D cy ad A s.heap z σ H locs) (hl : lv_has ls 2 [(0, va_rf (Option.map ad (some o0)))]) : W p l e R s m args below meth c H locs 0 0 Q (F0 m 0 ls []) := by
  have hx := hC.1
  have hb := hC.2.1
  unfold fX4_scan at h
  refine lr_aload_n hx hb dX4_scan_0 rfl (lv_at hl 0 rfl) ?_
  obtain ⟨t1, e_t1, h⟩ := bn h
  refine gf_X4_29 hC hG hM e_t1 dX4_scan_1 ?_
  refine lr_aload_n hx hb dX4_scan_4 rfl (lv_at hl 0 rfl) ?_
  obtain ⟨t2, e_t2, h⟩ := bn h
  refine gf_X4_32 hC hG hM e_t2 dX4_scan_5 ?_
  refine lv_iadd hx hb dX4_scan_8 ?_
  obtain ⟨t3, e_t3, h⟩ := bd_elim h
  refine lr_nmi e_t3 ?_
  refine lv_istore_n (lv' := [(1, .int t3), (0, va_rf (Option.map ad (some o0)))]) hx hb dX4_scan_9 rfl hl (by decide) (by first | rfl | simp [va_cat]) (fun ls hl => ?_)
  exact wX4_scan_b10 hC hG hR Kr FU _ _ _ _ _ _ h hM (lv_sub hl [1, 0] rfl)
theorem cX4_scan_ok {l : Launch} {D : va_G} {cy : Nat → ClassId} {ad : Nat → Nat} {A : Nat → Prop} {z : Nat} {σ' : Mem} {o0 : Nat} {σ : Mem} (h : fX4_scan o0 σ = some σ') : CtV l yX4_scan cX4_scan 2 none 2 [.ref (ad o0)] D cy ad A z σ () σ' :=
  enterV (own := RX4) (by decide) rfl (Nat.le_of_ble_eq_true rfl) rfl (fun p e s m below meth c Q ls hC hG hM Kr hl => wX4_scan hC hG ⟨Nat.le_refl _, Nat.le_refl _⟩ Kr _ _ _ _ _ h hM hl)
/-! X5_choiceAt (II)I -/
def fX5_choiceAt (o0 : Nat) (x1 : Int32) (x2 : Int32) (σ : Mem) : Option (Int32 × Mem) :=
  (fR σ 5 3 (some o0)).bind fun t1 =>
    b2 (fX5_slot x1 x2 σ) fun t2 m3 =>
    (aI m3 11 t1 t2).bind fun t4 =>
    some (t4, m3)
set_option maxRecDepth 20000 in
theorem wX5_choiceAt {r : Int32} {σ' : Mem} (hC : CallFix p m c cX5_choiceAt 3 s args WALL RX5) (hG : GS D cy A s) (hR : 2 ≤ R.frames ∧ 72 ≤ R.locals) (Kr : KrI p l e R s m args below meth c cX5_choiceAt Q D cy ad A z r σ') (o0 : Nat) (x1 : Int32) (x2 : Int32) (σ : Mem) (H : Heap) (locs : List Loc) (ls : Array Slot) (h : fX5_choiceAt o0 x1 x2 σ = some (r, σ')) (hM : MS D cy ad A s.heap z σ H locs) (hl : lv_has ls 3 [(0, va_rf (Option.map ad (some o0))), (1, .int x1), (2, .int x2)]) : W p l e R s m args below meth c H locs 0 0 Q (F0 m 0 ls []) := by
  have hx := hC.1
  have hb := hC.2.1
  unfold fX5_choiceAt at h
  refine lr_aload_n hx hb dX5_choiceAt_0 rfl (lv_at hl 0 rfl) ?_
  obtain ⟨t1, e_t1, h⟩ := bn h
  refine gf_X5_21 hC hG hM e_t1 dX5_choiceAt_1 ?_
  refine lv_iload_n hx hb dX5_choiceAt_4 rfl (lv_at hl 1 rfl) ?_
  refine lv_iload_n hx hb dX5_choiceAt_5 rfl (lv_at hl 2 rfl) ?_
  obtain ⟨t2, m3, e_m3, h⟩ := b2_elim h
  refine cs_X5_95 hC hG hM (cX5_slot_ok e_m3) ⟨by omega, by omega⟩ hl.1 (by first | exact Nat.le_of_ble_eq_true rfl | simp [va_cat, vcI, vcL, vcR]) dX5_choiceAt_6 (fun H locs hM => ?_)
  obtain ⟨t4, e_t4, h⟩ := bn h
  refine g_iald hx hb hG hM e_t4 dX5_choiceAt_9 ?_
  obtain ⟨rfl, rfl⟩ := Prod.mk.inj (Option.some.inj h)
  exact Kr _ _ _ _ dX5_choiceAt_10 hM
theorem cX5_choiceAt_ok {l : Launch} {D : va_G} {cy : Nat → ClassId} {ad : Nat → Nat} {A : Nat → Prop} {z : Nat} {r : Int32} {σ' : Mem} {o0 : Nat} {x1 : Int32} {x2 : Int32} {σ : Mem} (h : fX5_choiceAt o0 x1 x2 σ = some (r, σ')) : CtI l yX5_choiceAt cX5_choiceAt 3 (some .int) 2 [.ref (ad o0), .int x1, .int x2] D cy ad A z σ r σ' :=
  enterI (own := RX5) (by decide) rfl (Nat.le_of_ble_eq_true rfl) rfl (fun p e s m below meth c Q ls hC hG hM Kr hl => wX5_choiceAt hC hG ⟨Nat.le_refl _, Nat.le_refl _⟩ Kr _ _ _ _ _ _ _ h hM hl)
/-! X5_chooseFirst ()J -/
def fX5_chooseFirst_b55  (x1 : Int64)  (σ : Mem) : Option (Int64 × Mem) :=
  some (x1, σ)
set_option maxRecDepth 20000 in
theorem wX5_chooseFirst_b55 {r : Int64} {σ' : Mem} (hC : CallFix p m c cX5_chooseFirst 6 s args WALL RX5) (hG : GS D cy A s) (hR : 2 ≤ R.frames ∧ 72 ≤ R.locals) (Kr : KrL p l e R s m args below meth c cX5_chooseFirst Q D cy ad A z r σ')  (x1 : Int64)  (σ : Mem) (H : Heap) (locs : List Loc) (ls : Array Slot) (h : fX5_chooseFirst_b55 x1 σ = some (r, σ')) (hM : MS D cy ad A s.heap z σ H locs) (hl : lv_has ls 6 [(1, .long x1)]) : W p l e R s m args below meth c H locs 0 0 Q (F0 m 55 ls []) := by
  have hx := hC.1
  have hb := hC.2.1
  unfold fX5_chooseFirst_b55 at h
  refine lv_lload_n hx hb dX5_chooseFirst_55 rfl (lv_at hl 0 rfl) ?_
  obtain ⟨rfl, rfl⟩ := Prod.mk.inj (Option.some.inj h)
  exact Kr _ _ _ _ dX5_chooseFirst_56 hM
def fX5_chooseFirst_b49 (rc6 : Nat → Int64 → Int32 → Mem → Option (Int64 × Mem)) (o0 : Nat) (x1 : Int64) (x3 : Int32)  (σ : Mem) : Option (Int64 × Mem) :=
  bd (x3 + 1) fun t1 =>
    rc6 o0 x1 t1 σ
set_option maxRecDepth 20000 in
theorem wX5_chooseFirst_b49 {r : Int64} {σ' : Mem} (hC : CallFix p m c cX5_chooseFirst 6 s args WALL RX5) (hG : GS D cy A s) (hR : 2 ≤ R.frames ∧ 72 ≤ R.locals) (Kr : KrL p l e R s m args below meth c cX5_chooseFirst Q D cy ad A z r σ') {rc6 : Nat → Int64 → Int32 → Mem → Option (Int64 × Mem)} (Kc6 : ∀ (o0 : Nat) (x1 : Int64) (x3 : Int32) (τ : Mem) (H : Heap) (locs : List Loc) (ls : Array Slot), rc6 o0 x1 x3 τ = some (r, σ') → MS D cy ad A s.heap z τ H locs → lv_has ls 6 [(0, va_rf (Option.map ad (some o0))), (1, .long x1), (3, .int x3)] → W p l e R s m args below meth c H locs 0 0 Q (F0 m 6 ls [])) (o0 : Nat) (x1 : Int64) (x3 : Int32)  (σ : Mem) (H : Heap) (locs : List Loc) (ls : Array Slot) (h : fX5_chooseFirst_b49 rc6 o0 x1 x3 σ = some (r, σ')) (hM : MS D cy ad A s.heap z σ H locs) (hl : lv_has ls 6 [(0, va_rf (Option.map ad (some o0))), (1, .long x1), (3, .int x3)]) : W p l e R s m args below meth c H locs 0 0 Q (F0 m 49 ls []) := by
  have hx := hC.1
  have hb := hC.2.1
  unfold fX5_chooseFirst_b49 at h
  obtain ⟨t1, e_t1, h⟩ := bd_elim h
  refine lv_iinc (v := t1) (lv' := [(3, .int t1), (0, va_rf (Option.map ad (some o0))), (1, .long x1)]) hx hb dX5_chooseFirst_49 hl (k := 2) rfl (by rw [e_t1]; rfl) (by decide) (by first | rfl | simp [va_cat]) (fun ls hl => ?_)
  refine lv_goto (tgt := 6) hx hb dX5_chooseFirst_52 (by decide) ?_
  exact Kc6 _ _ _ _ _ _ _ h hM (lv_sub hl [1, 2, 0] rfl)
def fX5_chooseFirst_b6  : Nat → Nat → Int64 → Int32 → Mem → Option (Int64 × Mem)
  | 0, _, _, _, _ => none
  | n + 1, o0, x1, x3, σ =>
    (fR σ 5 4 (some o0)).bind fun t1 =>
      (fI σ 3 1 t1).bind fun t2 =>
      if t2 ≤ x3 then fX5_chooseFirst_b55 x1 σ
      else (fR σ 5 1 (some o0)).bind fun t4 =>
        (fI σ 5 5 (some o0)).bind fun t5 =>
        b2 (fX5_slot t5 x3 σ) fun t6 m7 =>
        (aJ m7 12 t4 t6).bind fun t8 =>
        b2 (fX8_isCheaper t8 x1 m7) fun t9 m10 =>
        if t9 = 0 then fX5_chooseFirst_b49 (fX5_chooseFirst_b6 n) o0 x1 x3 m10
        else (pI m10 5 7 (some o0) x3).bind fun m12 =>
          fX5_chooseFirst_b49 (fX5_chooseFirst_b6 n) o0 t8 x3 m12
set_option maxRecDepth 20000 in
theorem wX5_chooseFirst_b6 {r : Int64} {σ' : Mem} (hC : CallFix p m c cX5_chooseFirst 6 s args WALL RX5) (hG : GS D cy A s) (hR : 2 ≤ R.frames ∧ 72 ≤ R.locals) (Kr : KrL p l e R s m args below meth c cX5_chooseFirst Q D cy ad A z r σ')  : ∀ (n : Nat) (o0 : Nat) (x1 : Int64) (x3 : Int32)  (σ : Mem) (H : Heap) (locs : List Loc) (ls : Array Slot), fX5_chooseFirst_b6 n o0 x1 x3 σ = some (r, σ') → MS D cy ad A s.heap z σ H locs → lv_has ls 6 [(0, va_rf (Option.map ad (some o0))), (1, .long x1), (3, .int x3)] → W p l e R s m args below meth c H locs 0 0 Q (F0 m 6 ls []) := by
  have hx := hC.1
  have hb := hC.2.1
  intro n
  induction n with
  | zero =>
    intro o0 x1 x3 σ H locs ls h
    cases h
  | succ n ih =>
    intro o0 x1 x3 σ H locs ls h hM hl
    rw [fX5_chooseFirst_b6] at h
    refine lv_iload_n hx hb dX5_chooseFirst_6 rfl (lv_at hl 2 rfl) ?_
    refine lr_aload_n hx hb dX5_chooseFirst_7 rfl (lv_at hl 0 rfl) ?_
    obtain ⟨t1, e_t1, h⟩ := bn h
    refine gf_X5_25 hC hG hM e_t1 dX5_chooseFirst_8 ?_
    obtain ⟨t2, e_t2, h⟩ := bn h
    refine gf_X5_55 hC hG hM e_t2 dX5_chooseFirst_11 ?_
    refine lv_icmp_ge (tgt := 55) hx hb dX5_chooseFirst_14 (by decide) (fun c3 => ?_) (fun c3 => ?_)
    · rw [if_pos c3] at h
      exact wX5_chooseFirst_b55 hC hG hR Kr _ _ _ _ _ h hM (lv_sub hl [1] rfl)
    · rw [if_neg c3] at h
      refine lr_aload_n hx hb dX5_chooseFirst_17 rfl (lv_at hl 0 rfl) ?_
      obtain ⟨t4, e_t4, h⟩ := bn h
      refine gf_X5_15 hC hG hM e_t4 dX5_chooseFirst_18 ?_
      refine lr_aload_n hx hb dX5_chooseFirst_21 rfl (lv_at hl 0 rfl) ?_
      obtain ⟨t5, e_t5, h⟩ := bn h
      refine gf_X5_35 hC hG hM e_t5 dX5_chooseFirst_22 ?_
      refine lv_iload_n hx hb dX5_chooseFirst_25 rfl (lv_at hl 2 rfl) ?_
      obtain ⟨t6, m7, e_m7, h⟩ := b2_elim h
      refine cs_X5_95 hC hG hM (cX5_slot_ok e_m7) ⟨by omega, by omega⟩ hl.1 (by first | exact Nat.le_of_ble_eq_true rfl | simp [va_cat, vcI, vcL, vcR]) dX5_chooseFirst_26 (fun H locs hM => ?_)
      obtain ⟨t8, e_t8, h⟩ := bn h
      refine g_lald hx hb hG hM e_t8 dX5_chooseFirst_29 ?_
      refine lv_lstore (lv' := [(4, .long t8), (0, va_rf (Option.map ad (some o0))), (1, .long x1), (3, .int x3)]) hx hb dX5_chooseFirst_30 hl (by decide) (by first | rfl | simp [va_cat]) (fun ls hl => ?_)
      refine lv_lload hx hb dX5_chooseFirst_32 (lv_at hl 0 rfl) ?_
      refine lv_lload_n hx hb dX5_chooseFirst_34 rfl (lv_at hl 2 rfl) ?_
      obtain ⟨t9, m10, e_m10, h⟩ := b2_elim h
      refine cs_X5_115 hC hG hM (cX8_isCheaper_ok e_m10) ⟨by omega, by omega⟩ hl.1 (by first | exact Nat.le_of_ble_eq_true rfl | simp [va_cat, vcI, vcL, vcR]) dX5_chooseFirst_35 (fun H locs hM => ?_)
      refine lv_if_eq (tgt := 49) hx hb dX5_chooseFirst_38 (by decide) (fun c11 => ?_) (fun c11 => ?_)
      · rw [if_pos c11] at h
        exact wX5_chooseFirst_b49 hC hG hR Kr ih _ _ _ _ _ _ _ h hM (lv_sub hl [1, 2, 3] rfl)
      · rw [if_neg c11] at h
        refine lv_lload hx hb dX5_chooseFirst_41 (lv_at hl 0 rfl) ?_
        refine lv_lstore_n (lv' := [(1, .long t8), (4, .long t8), (0, va_rf (Option.map ad (some o0))), (3, .int x3)]) hx hb dX5_chooseFirst_43 rfl hl (by decide) (by first | rfl | simp [va_cat]) (fun ls hl => ?_)
        refine lr_aload_n hx hb dX5_chooseFirst_44 rfl (lv_at hl 2 rfl) ?_
        refine lv_iload_n hx hb dX5_chooseFirst_45 rfl (lv_at hl 3 rfl) ?_
        obtain ⟨m12, e_m12, h⟩ := bn h
        refine pf_X5_72 hC hG hM e_m12 dX5_chooseFirst_46 (fun H locs hM => ?_)
        exact wX5_chooseFirst_b49 hC hG hR Kr ih _ _ _ _ _ _ _ h hM (lv_sub hl [2, 0, 3] rfl)
def fX5_chooseFirst (o0 : Nat) (σ : Mem) : Option (Int64 × Mem) :=
  fX5_chooseFirst_b6 FU o0 (-1) 0 σ
set_option maxRecDepth 20000 in
theorem wX5_chooseFirst {r : Int64} {σ' : Mem} (hC : CallFix p m c cX5_chooseFirst 6 s args WALL RX5) (hG : GS D cy A s) (hR : 2 ≤ R.frames ∧ 72 ≤ R.locals) (Kr : KrL p l e R s m args below meth c cX5_chooseFirst Q D cy ad A z r σ') (o0 : Nat) (σ : Mem) (H : Heap) (locs : List Loc) (ls : Array Slot) (h : fX5_chooseFirst o0 σ = some (r, σ')) (hM : MS D cy ad A s.heap z σ H locs) (hl : lv_has ls 6 [(0, va_rf (Option.map ad (some o0)))]) : W p l e R s m args below meth c H locs 0 0 Q (F0 m 0 ls []) := by
  have hx := hC.1
  have hb := hC.2.1
  unfold fX5_chooseFirst at h
  refine lv_ldc2 (v := (-1)) hx hb hC.2.2.2.1 (hC.2.2.2.2 _ wk_X5_98) dX5_chooseFirst_0 ?_
  refine lv_lstore_n (lv' := [(1, .long (-1)), (0, va_rf (Option.map ad (some o0)))]) hx hb dX5_chooseFirst_3 rfl hl (by decide) (by first | rfl | simp [va_cat]) (fun ls hl => ?_)
  refine lv_iconst (v := 0) hx hb dX5_chooseFirst_4 (by decide) ?_
  refine lv_istore_n (lv' := [(3, .int 0), (1, .long (-1)), (0, va_rf (Option.map ad (some o0)))]) hx hb dX5_chooseFirst_5 rfl hl (by decide) (by first | rfl | simp [va_cat]) (fun ls hl => ?_)
  exact wX5_chooseFirst_b6 hC hG hR Kr FU _ _ _ _ _ _ _ h hM (lv_sub hl [2, 1, 0] rfl)
theorem cX5_chooseFirst_ok {l : Launch} {D : va_G} {cy : Nat → ClassId} {ad : Nat → Nat} {A : Nat → Prop} {z : Nat} {r : Int64} {σ' : Mem} {o0 : Nat} {σ : Mem} (h : fX5_chooseFirst o0 σ = some (r, σ')) : CtL l yX5_chooseFirst cX5_chooseFirst 6 (some .long) 2 [.ref (ad o0)] D cy ad A z σ r σ' :=
  enterL (own := RX5) (by decide) rfl (Nat.le_of_ble_eq_true rfl) rfl (fun p e s m below meth c Q ls hC hG hM Kr hl => wX5_chooseFirst hC hG ⟨Nat.le_refl _, Nat.le_refl _⟩ Kr _ _ _ _ _ h hM hl)
/-! X5_fillBegun (II)V -/
def fX5_fillBegun_b101  (o0 : Nat) (x1 : Int32) (x2 : Int32) (x4 : Int64)  (σ : Mem) : Option (Mem) :=
  (fR σ 5 1 (some o0)).bind fun t1 =>
    b2 (fX5_slot x2 x1 σ) fun t2 m3 =>
    (wJ m3 12 t1 t2 x4).bind fun m4 =>
    some m4
set_option maxRecDepth 20000 in
theorem wX5_fillBegun_b101 {σ' : Mem} (hC : CallFix p m c cX5_fillBegun 8 s args WALL RX5) (hG : GS D cy A s) (hR : 2 ≤ R.frames ∧ 72 ≤ R.locals) (Kr : KrV p l e R s m args below meth c cX5_fillBegun Q D cy ad A z () σ')  (o0 : Nat) (x1 : Int32) (x2 : Int32) (x4 : Int64)  (σ : Mem) (H : Heap) (locs : List Loc) (ls : Array Slot) (h : fX5_fillBegun_b101 o0 x1 x2 x4 σ = some σ') (hM : MS D cy ad A s.heap z σ H locs) (hl : lv_has ls 8 [(0, va_rf (Option.map ad (some o0))), (1, .int x1), (2, .int x2), (4, .long x4)]) : W p l e R s m args below meth c H locs 0 0 Q (F0 m 101 ls []) := by
  have hx := hC.1
  have hb := hC.2.1
  unfold fX5_fillBegun_b101 at h
  refine lr_aload_n hx hb dX5_fillBegun_101 rfl (lv_at hl 0 rfl) ?_
  obtain ⟨t1, e_t1, h⟩ := bn h
  refine gf_X5_15 hC hG hM e_t1 dX5_fillBegun_102 ?_
  refine lv_iload_n hx hb dX5_fillBegun_105 rfl (lv_at hl 2 rfl) ?_
  refine lv_iload_n hx hb dX5_fillBegun_106 rfl (lv_at hl 1 rfl) ?_
  obtain ⟨t2, m3, e_m3, h⟩ := b2_elim h
  refine cs_X5_95 hC hG hM (cX5_slot_ok e_m3) ⟨by omega, by omega⟩ hl.1 (by first | exact Nat.le_of_ble_eq_true rfl | simp [va_cat, vcI, vcL, vcR]) dX5_fillBegun_107 (fun H locs hM => ?_)
  refine lv_lload hx hb dX5_fillBegun_110 (lv_at hl 3 rfl) ?_
  obtain ⟨m4, e_m4, h⟩ := bn h
  refine g_last hx hb hG hM e_m4 dX5_fillBegun_112 (fun H locs hM => ?_)
  cases h
  exact Kr _ _ _ _ dX5_fillBegun_113 hM
def fX5_fillBegun_b70  : Nat → Nat → Int32 → Int32 → Int64 → Int32 → Int32 → Mem → Option (Mem)
  | 0, _, _, _, _, _, _, _ => none
  | n + 1, o0, x1, x2, x4, x6, x7, σ =>
    if x6 ≤ x7 then fX5_fillBegun_b101 o0 x1 x2 x4 σ
      else (fR σ 5 0 (some o0)).bind fun t2 =>
        b2 (fX5_slot x7 x1 σ) fun t3 m4 =>
        (aJ m4 12 t2 t3).bind fun t5 =>
        b2 (fX8_plus x4 t5 m4) fun t6 m7 =>
        bd (x7 + 1) fun t8 =>
        (fX5_fillBegun_b70 n) o0 x1 x2 t6 x6 t8 m7
set_option maxRecDepth 20000 in
theorem wX5_fillBegun_b70 {σ' : Mem} (hC : CallFix p m c cX5_fillBegun 8 s args WALL RX5) (hG : GS D cy A s) (hR : 2 ≤ R.frames ∧ 72 ≤ R.locals) (Kr : KrV p l e R s m args below meth c cX5_fillBegun Q D cy ad A z () σ')  : ∀ (n : Nat) (o0 : Nat) (x1 : Int32) (x2 : Int32) (x4 : Int64) (x6 : Int32) (x7 : Int32)  (σ : Mem) (H : Heap) (locs : List Loc) (ls : Array Slot), fX5_fillBegun_b70 n o0 x1 x2 x4 x6 x7 σ = some σ' → MS D cy ad A s.heap z σ H locs → lv_has ls 8 [(0, va_rf (Option.map ad (some o0))), (1, .int x1), (2, .int x2), (4, .long x4), (6, .int x6), (7, .int x7)] → W p l e R s m args below meth c H locs 0 0 Q (F0 m 70 ls []) := by
  have hx := hC.1
  have hb := hC.2.1
  intro n
  induction n with
  | zero =>
    intro o0 x1 x2 x4 x6 x7 σ H locs ls h
    cases h
  | succ n ih =>
    intro o0 x1 x2 x4 x6 x7 σ H locs ls h hM hl
    rw [fX5_fillBegun_b70] at h
    refine lv_iload hx hb dX5_fillBegun_70 (lv_at hl 5 rfl) ?_
    refine lv_iload hx hb dX5_fillBegun_72 (lv_at hl 4 rfl) ?_
    refine lv_icmp_ge (tgt := 101) hx hb dX5_fillBegun_74 (by decide) (fun c1 => ?_) (fun c1 => ?_)
    · rw [if_pos c1] at h
      exact wX5_fillBegun_b101 hC hG hR Kr _ _ _ _ _ _ _ _ h hM (lv_sub hl [0, 1, 2, 3] rfl)
    · rw [if_neg c1] at h
      refine lv_lload hx hb dX5_fillBegun_77 (lv_at hl 3 rfl) ?_
      refine lr_aload_n hx hb dX5_fillBegun_79 rfl (lv_at hl 0 rfl) ?_
      obtain ⟨t2, e_t2, h⟩ := bn h
      refine gf_X5_9 hC hG hM e_t2 dX5_fillBegun_80 ?_
      refine lv_iload hx hb dX5_fillBegun_83 (lv_at hl 5 rfl) ?_
      refine lv_iload_n hx hb dX5_fillBegun_85 rfl (lv_at hl 1 rfl) ?_
      obtain ⟨t3, m4, e_m4, h⟩ := b2_elim h
      refine cs_X5_95 hC hG hM (cX5_slot_ok e_m4) ⟨by omega, by omega⟩ hl.1 (by first | exact Nat.le_of_ble_eq_true rfl | simp [va_cat, vcI, vcL, vcR]) dX5_fillBegun_86 (fun H locs hM => ?_)
      obtain ⟨t5, e_t5, h⟩ := bn h
      refine g_lald hx hb hG hM e_t5 dX5_fillBegun_89 ?_
      obtain ⟨t6, m7, e_m7, h⟩ := b2_elim h
      refine cs_X5_107 hC hG hM (cX8_plus_ok e_m7) ⟨by omega, by omega⟩ hl.1 (by first | exact Nat.le_of_ble_eq_true rfl | simp [va_cat, vcI, vcL, vcR]) dX5_fillBegun_90 (fun H locs hM => ?_)
      refine lv_lstore (lv' := [(4, .long t6), (0, va_rf (Option.map ad (some o0))), (1, .int x1), (2, .int x2), (6, .int x6), (7, .int x7)]) hx hb dX5_fillBegun_93 hl (by decide) (by first | rfl | simp [va_cat]) (fun ls hl => ?_)
      obtain ⟨t8, e_t8, h⟩ := bd_elim h
      refine lv_iinc (v := t8) (lv' := [(7, .int t8), (4, .long t6), (0, va_rf (Option.map ad (some o0))), (1, .int x1), (2, .int x2), (6, .int x6)]) hx hb dX5_fillBegun_95 hl (k := 5) rfl (by rw [e_t8]; rfl) (by decide) (by first | rfl | simp [va_cat]) (fun ls hl => ?_)
      refine lv_goto (tgt := 70) hx hb dX5_fillBegun_98 (by decide) ?_
      exact ih _ _ _ _ _ _ _ _ _ _ h hM (lv_sub hl [2, 3, 4, 1, 5, 0] rfl)
def fX5_fillBegun_b65  (o0 : Nat) (x1 : Int32) (x2 : Int32) (x6 : Int32) (y0 : Int64) (σ : Mem) : Option (Mem) :=
  fX5_fillBegun_b70 FU o0 x1 x2 y0 x6 x2 σ
set_option maxRecDepth 20000 in
theorem wX5_fillBegun_b65 {σ' : Mem} (hC : CallFix p m c cX5_fillBegun 8 s args WALL RX5) (hG : GS D cy A s) (hR : 2 ≤ R.frames ∧ 72 ≤ R.locals) (Kr : KrV p l e R s m args below meth c cX5_fillBegun Q D cy ad A z () σ')  (o0 : Nat) (x1 : Int32) (x2 : Int32) (x6 : Int32) (y0 : Int64) (σ : Mem) (H : Heap) (locs : List Loc) (ls : Array Slot) (h : fX5_fillBegun_b65 o0 x1 x2 x6 y0 σ = some σ') (hM : MS D cy ad A s.heap z σ H locs) (hl : lv_has ls 8 [(0, va_rf (Option.map ad (some o0))), (1, .int x1), (2, .int x2), (6, .int x6)]) : W p l e R s m args below meth c H locs 0 0 Q (F0 m 65 ls [.long y0]) := by
  have hx := hC.1
  have hb := hC.2.1
  unfold fX5_fillBegun_b65 at h
  refine lv_lstore (lv' := [(4, .long y0), (0, va_rf (Option.map ad (some o0))), (1, .int x1), (2, .int x2), (6, .int x6)]) hx hb dX5_fillBegun_65 hl (by decide) (by first | rfl | simp [va_cat]) (fun ls hl => ?_)
  refine lv_iload_n hx hb dX5_fillBegun_67 rfl (lv_at hl 3 rfl) ?_
  refine lv_istore (lv' := [(7, .int x2), (4, .long y0), (0, va_rf (Option.map ad (some o0))), (1, .int x1), (2, .int x2), (6, .int x6)]) hx hb dX5_fillBegun_68 hl (by decide) (by first | rfl | simp [va_cat]) (fun ls hl => ?_)
  exact wX5_fillBegun_b70 hC hG hR Kr FU _ _ _ _ _ _ _ _ _ _ h hM (lv_sub hl [2, 3, 4, 1, 5, 0] rfl)
def fX5_fillBegun (o0 : Nat) (x1 : Int32) (x2 : Int32) (σ : Mem) : Option (Mem) :=
  (fR σ 5 4 (some o0)).bind fun t1 =>
    (kT σ 3 t1).bind fun k2 =>
    b2 (fX3_at k2 x1 σ) fun t3 m4 =>
    if t3 = none then fX5_fillBegun_b101 o0 x1 x2 (-1) m4
    else (kT m4 2 t3).bind fun k6 =>
      b2 (fX2_mayBeginIn k6 x2 m4) fun t7 m8 =>
      if t7 = 0 then fX5_fillBegun_b101 o0 x1 x2 (-1) m8
      else (fI m8 2 4 t3).bind fun t10 =>
        (fI m8 5 6 (some o0)).bind fun t11 =>
        bd (if t11 < (x2 + t10) then t11 else (x2 + t10)) fun t12 =>
        (fI m8 5 6 (some o0)).bind fun t13 =>
        if t13 ≤ t12 then fX5_fillBegun_b65 o0 x1 x2 t12 0 m8
        else (fR m8 5 2 (some o0)).bind fun t15 =>
          b2 (fX5_slot t12 x1 m8) fun t16 m17 =>
          (aJ m17 12 t15 t16).bind fun t18 =>
          fX5_fillBegun_b65 o0 x1 x2 t12 t18 m17
set_option maxRecDepth 20000 in
theorem wX5_fillBegun {σ' : Mem} (hC : CallFix p m c cX5_fillBegun 8 s args WALL RX5) (hG : GS D cy A s) (hR : 2 ≤ R.frames ∧ 72 ≤ R.locals) (Kr : KrV p l e R s m args below meth c cX5_fillBegun Q D cy ad A z () σ') (o0 : Nat) (x1 : Int32) (x2 : Int32) (σ : Mem) (H : Heap) (locs : List Loc) (ls : Array Slot) (h : fX5_fillBegun o0 x1 x2 σ = some σ') (hM : MS D cy ad A s.heap z σ H locs) (hl : lv_has ls 8 [(0, va_rf (Option.map ad (some o0))), (1, .int x1), (2, .int x2)]) : W p l e R s m args below meth c H locs 0 0 Q (F0 m 0 ls []) := by
  have hx := hC.1
  have hb := hC.2.1
  unfold fX5_fillBegun at h
  refine lr_aload_n hx hb dX5_fillBegun_0 rfl (lv_at hl 0 rfl) ?_
  obtain ⟨t1, e_t1, h⟩ := bn h
  refine gf_X5_25 hC hG hM e_t1 dX5_fillBegun_1 ?_
  refine lv_iload_n hx hb dX5_fillBegun_4 rfl (lv_at hl 1 rfl) ?_
  obtain ⟨k2, e_k2, h⟩ := bn h
  obtain ⟨t3, m4, e_m4, h⟩ := b2_elim h
  refine cs_X5_86 e_k2 hC hG hM (cX3_at_ok e_m4) ⟨by omega, by omega⟩ hl.1 (by first | exact Nat.le_of_ble_eq_true rfl | simp [va_cat, vcI, vcL, vcR]) dX5_fillBegun_5 (fun H locs hM => ?_)
  refine lr_astore_n (lv' := [(3, va_rf (Option.map ad t3)), (0, va_rf (Option.map ad (some o0))), (1, .int x1), (2, .int x2)]) hx hb dX5_fillBegun_8 rfl hl (by decide) (by first | rfl | simp [va_cat]) (fun ls hl => ?_)
  refine lv_ldc2 (v := (-1)) hx hb hC.2.2.2.1 (hC.2.2.2.2 _ wk_X5_98) dX5_fillBegun_9 ?_
  refine lv_lstore (lv' := [(4, .long (-1)), (3, va_rf (Option.map ad t3)), (0, va_rf (Option.map ad (some o0))), (1, .int x1), (2, .int x2)]) hx hb dX5_fillBegun_12 hl (by decide) (by first | rfl | simp [va_cat]) (fun ls hl => ?_)
  refine lr_aload_n hx hb dX5_fillBegun_14 rfl (lv_at hl 1 rfl) ?_
  refine lr_ifnull (tgt := 101) hx hb dX5_fillBegun_15 (by decide) (fun c5 => ?_) (fun c5 => ?_)
  · rw [if_pos c5] at h
    exact wX5_fillBegun_b101 hC hG hR Kr _ _ _ _ _ _ _ _ h hM (lv_sub hl [2, 3, 4, 0] rfl)
  · rw [if_neg c5] at h
    refine lr_aload_n hx hb dX5_fillBegun_18 rfl (lv_at hl 1 rfl) ?_
    refine lv_iload_n hx hb dX5_fillBegun_19 rfl (lv_at hl 4 rfl) ?_
    obtain ⟨k6, e_k6, h⟩ := bn h
    obtain ⟨t7, m8, e_m8, h⟩ := b2_elim h
    refine cs_X5_103 e_k6 hC hG hM (cX2_mayBeginIn_ok e_m8) ⟨by omega, by omega⟩ hl.1 (by first | exact Nat.le_of_ble_eq_true rfl | simp [va_cat, vcI, vcL, vcR]) dX5_fillBegun_20 (fun H locs hM => ?_)
    refine lv_if_eq (tgt := 101) hx hb dX5_fillBegun_23 (by decide) (fun c9 => ?_) (fun c9 => ?_)
    · rw [if_pos c9] at h
      exact wX5_fillBegun_b101 hC hG hR Kr _ _ _ _ _ _ _ _ h hM (lv_sub hl [2, 3, 4, 0] rfl)
    · rw [if_neg c9] at h
      refine lv_iload_n hx hb dX5_fillBegun_26 rfl (lv_at hl 4 rfl) ?_
      refine lr_aload_n hx hb dX5_fillBegun_27 rfl (lv_at hl 1 rfl) ?_
      obtain ⟨t10, e_t10, h⟩ := bn h
      refine gf_X5_90 hC hG hM e_t10 dX5_fillBegun_28 ?_
      refine lv_iadd hx hb dX5_fillBegun_31 ?_
      refine lr_aload_n hx hb dX5_fillBegun_32 rfl (lv_at hl 2 rfl) ?_
      obtain ⟨t11, e_t11, h⟩ := bn h
      refine gf_X5_42 hC hG hM e_t11 dX5_fillBegun_33 ?_
      refine mm_X5_39 hC (by omega) (by simp [va_cat, vcI, vcL, vcR] <;> omega) dX5_fillBegun_36 hl.1 ?_
      obtain ⟨t12, e_t12, h⟩ := bd_elim h
      refine lr_nmi e_t12 ?_
      refine lv_istore (lv' := [(6, .int t12), (4, .long (-1)), (3, va_rf (Option.map ad t3)), (0, va_rf (Option.map ad (some o0))), (1, .int x1), (2, .int x2)]) hx hb dX5_fillBegun_39 hl (by decide) (by first | rfl | simp [va_cat]) (fun ls hl => ?_)
      refine lv_iload hx hb dX5_fillBegun_41 (lv_at hl 0 rfl) ?_
      refine lr_aload_n hx hb dX5_fillBegun_43 rfl (lv_at hl 3 rfl) ?_
      obtain ⟨t13, e_t13, h⟩ := bn h
      refine gf_X5_42 hC hG hM e_t13 dX5_fillBegun_44 ?_
      refine lv_icmp_ge (tgt := 64) hx hb dX5_fillBegun_47 (by decide) (fun c14 => ?_) (fun c14 => ?_)
      · rw [if_pos c14] at h
        refine lv_lconst (v := 0) hx hb dX5_fillBegun_64 (by decide) ?_
        exact wX5_fillBegun_b65 hC hG hR Kr _ _ _ _ _ _ _ _ _ h hM (lv_sub hl [3, 4, 5, 0] rfl)
      · rw [if_neg c14] at h
        refine lr_aload_n hx hb dX5_fillBegun_50 rfl (lv_at hl 3 rfl) ?_
        obtain ⟨t15, e_t15, h⟩ := bn h
        refine gf_X5_18 hC hG hM e_t15 dX5_fillBegun_51 ?_
        refine lv_iload hx hb dX5_fillBegun_54 (lv_at hl 0 rfl) ?_
        refine lv_iload_n hx hb dX5_fillBegun_56 rfl (lv_at hl 4 rfl) ?_
        obtain ⟨t16, m17, e_m17, h⟩ := b2_elim h
        refine cs_X5_95 hC hG hM (cX5_slot_ok e_m17) ⟨by omega, by omega⟩ hl.1 (by first | exact Nat.le_of_ble_eq_true rfl | simp [va_cat, vcI, vcL, vcR]) dX5_fillBegun_57 (fun H locs hM => ?_)
        obtain ⟨t18, e_t18, h⟩ := bn h
        refine g_lald hx hb hG hM e_t18 dX5_fillBegun_60 ?_
        refine lv_goto (tgt := 65) hx hb dX5_fillBegun_61 (by decide) ?_
        exact wX5_fillBegun_b65 hC hG hR Kr _ _ _ _ _ _ _ _ _ h hM (lv_sub hl [3, 4, 5, 0] rfl)
theorem cX5_fillBegun_ok {l : Launch} {D : va_G} {cy : Nat → ClassId} {ad : Nat → Nat} {A : Nat → Prop} {z : Nat} {σ' : Mem} {o0 : Nat} {x1 : Int32} {x2 : Int32} {σ : Mem} (h : fX5_fillBegun o0 x1 x2 σ = some σ') : CtV l yX5_fillBegun cX5_fillBegun 8 none 2 [.ref (ad o0), .int x1, .int x2] D cy ad A z σ () σ' :=
  enterV (own := RX5) (by decide) rfl (Nat.le_of_ble_eq_true rfl) rfl (fun p e s m below meth c Q ls hC hG hM Kr hl => wX5_fillBegun hC hG ⟨Nat.le_refl _, Nat.le_refl _⟩ Kr _ _ _ _ _ _ _ h hM hl)
/-! X5_keptCents (II)J -/
def fX5_keptCents_b26  (o0 : Nat) (x1 : Int32) (x2 : Int32) (y0 : Int64) (σ : Mem) : Option (Int64 × Mem) :=
  (fR σ 5 0 (some o0)).bind fun t1 =>
    b2 (fX5_slot x2 x1 σ) fun t2 m3 =>
    (aJ m3 12 t1 t2).bind fun t4 =>
    b2 (fX8_plus t4 y0 m3) fun t5 m6 =>
    some (t5, m6)
set_option maxRecDepth 20000 in
theorem wX5_keptCents_b26 {r : Int64} {σ' : Mem} (hC : CallFix p m c cX5_keptCents 5 s args WALL RX5) (hG : GS D cy A s) (hR : 2 ≤ R.frames ∧ 72 ≤ R.locals) (Kr : KrL p l e R s m args below meth c cX5_keptCents Q D cy ad A z r σ')  (o0 : Nat) (x1 : Int32) (x2 : Int32) (y0 : Int64) (σ : Mem) (H : Heap) (locs : List Loc) (ls : Array Slot) (h : fX5_keptCents_b26 o0 x1 x2 y0 σ = some (r, σ')) (hM : MS D cy ad A s.heap z σ H locs) (hl : lv_has ls 5 [(0, va_rf (Option.map ad (some o0))), (1, .int x1), (2, .int x2)]) : W p l e R s m args below meth c H locs 0 0 Q (F0 m 26 ls [.long y0]) := by
  have hx := hC.1
  have hb := hC.2.1
  unfold fX5_keptCents_b26 at h
  refine lv_lstore_n (lv' := [(3, .long y0), (0, va_rf (Option.map ad (some o0))), (1, .int x1), (2, .int x2)]) hx hb dX5_keptCents_26 rfl hl (by decide) (by first | rfl | simp [va_cat]) (fun ls hl => ?_)
  refine lr_aload_n hx hb dX5_keptCents_27 rfl (lv_at hl 1 rfl) ?_
  obtain ⟨t1, e_t1, h⟩ := bn h
  refine gf_X5_9 hC hG hM e_t1 dX5_keptCents_28 ?_
  refine lv_iload_n hx hb dX5_keptCents_31 rfl (lv_at hl 3 rfl) ?_
  refine lv_iload_n hx hb dX5_keptCents_32 rfl (lv_at hl 2 rfl) ?_
  obtain ⟨t2, m3, e_m3, h⟩ := b2_elim h
  refine cs_X5_95 hC hG hM (cX5_slot_ok e_m3) ⟨by omega, by omega⟩ hl.1 (by first | exact Nat.le_of_ble_eq_true rfl | simp [va_cat, vcI, vcL, vcR]) dX5_keptCents_33 (fun H locs hM => ?_)
  obtain ⟨t4, e_t4, h⟩ := bn h
  refine g_lald hx hb hG hM e_t4 dX5_keptCents_36 ?_
  refine lv_lload_n hx hb dX5_keptCents_37 rfl (lv_at hl 0 rfl) ?_
  obtain ⟨t5, m6, e_m6, h⟩ := b2_elim h
  refine cs_X5_107 hC hG hM (cX8_plus_ok e_m6) ⟨by omega, by omega⟩ hl.1 (by first | exact Nat.le_of_ble_eq_true rfl | simp [va_cat, vcI, vcL, vcR]) dX5_keptCents_38 (fun H locs hM => ?_)
  obtain ⟨rfl, rfl⟩ := Prod.mk.inj (Option.some.inj h)
  exact Kr _ _ _ _ dX5_keptCents_41 hM
def fX5_keptCents (o0 : Nat) (x1 : Int32) (x2 : Int32) (σ : Mem) : Option (Int64 × Mem) :=
  (fI σ 5 6 (some o0)).bind fun t1 =>
    if t1 ≤ (x2 + 1) then fX5_keptCents_b26 o0 x1 x2 0 σ
    else (fR σ 5 2 (some o0)).bind fun t3 =>
      b2 (fX5_slot (x2 + 1) x1 σ) fun t4 m5 =>
      (aJ m5 12 t3 t4).bind fun t6 =>
      fX5_keptCents_b26 o0 x1 x2 t6 m5
set_option maxRecDepth 20000 in
theorem wX5_keptCents {r : Int64} {σ' : Mem} (hC : CallFix p m c cX5_keptCents 5 s args WALL RX5) (hG : GS D cy A s) (hR : 2 ≤ R.frames ∧ 72 ≤ R.locals) (Kr : KrL p l e R s m args below meth c cX5_keptCents Q D cy ad A z r σ') (o0 : Nat) (x1 : Int32) (x2 : Int32) (σ : Mem) (H : Heap) (locs : List Loc) (ls : Array Slot) (h : fX5_keptCents o0 x1 x2 σ = some (r, σ')) (hM : MS D cy ad A s.heap z σ H locs) (hl : lv_has ls 5 [(0, va_rf (Option.map ad (some o0))), (1, .int x1), (2, .int x2)]) : W p l e R s m args below meth c H locs 0 0 Q (F0 m 0 ls []) := by
  have hx := hC.1
  have hb := hC.2.1
  unfold fX5_keptCents at h
  refine lv_iload_n hx hb dX5_keptCents_0 rfl (lv_at hl 2 rfl) ?_
  refine lv_iconst (v := 1) hx hb dX5_keptCents_1 (by decide) ?_
  refine lv_iadd hx hb dX5_keptCents_2 ?_
  refine lr_aload_n hx hb dX5_keptCents_3 rfl (lv_at hl 0 rfl) ?_
  obtain ⟨t1, e_t1, h⟩ := bn h
  refine gf_X5_42 hC hG hM e_t1 dX5_keptCents_4 ?_
  refine lv_icmp_ge (tgt := 25) hx hb dX5_keptCents_7 (by decide) (fun c2 => ?_) (fun c2 => ?_)
  · rw [if_pos c2] at h
    refine lv_lconst (v := 0) hx hb dX5_keptCents_25 (by decide) ?_
    exact wX5_keptCents_b26 hC hG hR Kr _ _ _ _ _ _ _ _ h hM (lv_sub hl [0, 1, 2] rfl)
  · rw [if_neg c2] at h
    refine lr_aload_n hx hb dX5_keptCents_10 rfl (lv_at hl 0 rfl) ?_
    obtain ⟨t3, e_t3, h⟩ := bn h
    refine gf_X5_18 hC hG hM e_t3 dX5_keptCents_11 ?_
    refine lv_iload_n hx hb dX5_keptCents_14 rfl (lv_at hl 2 rfl) ?_
    refine lv_iconst (v := 1) hx hb dX5_keptCents_15 (by decide) ?_
    refine lv_iadd hx hb dX5_keptCents_16 ?_
    refine lv_iload_n hx hb dX5_keptCents_17 rfl (lv_at hl 1 rfl) ?_
    obtain ⟨t4, m5, e_m5, h⟩ := b2_elim h
    refine cs_X5_95 hC hG hM (cX5_slot_ok e_m5) ⟨by omega, by omega⟩ hl.1 (by first | exact Nat.le_of_ble_eq_true rfl | simp [va_cat, vcI, vcL, vcR]) dX5_keptCents_18 (fun H locs hM => ?_)
    obtain ⟨t6, e_t6, h⟩ := bn h
    refine g_lald hx hb hG hM e_t6 dX5_keptCents_21 ?_
    refine lv_goto (tgt := 26) hx hb dX5_keptCents_22 (by decide) ?_
    exact wX5_keptCents_b26 hC hG hR Kr _ _ _ _ _ _ _ _ h hM (lv_sub hl [0, 1, 2] rfl)
theorem cX5_keptCents_ok {l : Launch} {D : va_G} {cy : Nat → ClassId} {ad : Nat → Nat} {A : Nat → Prop} {z : Nat} {r : Int64} {σ' : Mem} {o0 : Nat} {x1 : Int32} {x2 : Int32} {σ : Mem} (h : fX5_keptCents o0 x1 x2 σ = some (r, σ')) : CtL l yX5_keptCents cX5_keptCents 5 (some .long) 2 [.ref (ad o0), .int x1, .int x2] D cy ad A z σ r σ' :=
  enterL (own := RX5) (by decide) rfl (Nat.le_of_ble_eq_true rfl) rfl (fun p e s m below meth c Q ls hC hG hM Kr hl => wX5_keptCents hC hG ⟨Nat.le_refl _, Nat.le_refl _⟩ Kr _ _ _ _ _ _ _ h hM hl)
/-! X7_at (III)I -/
def fX7_at_b25   (y0 : Int32) (σ : Mem) : Option (Int32 × Mem) :=
  some (y0, σ)
set_option maxRecDepth 20000 in
theorem wX7_at_b25 {r : Int32} {σ' : Mem} (hC : CallFix p m c cX7_at 5 s args WALL RX7) (hG : GS D cy A s) (hR : 2 ≤ R.frames ∧ 72 ≤ R.locals) (Kr : KrI p l e R s m args below meth c cX7_at Q D cy ad A z r σ')   (y0 : Int32) (σ : Mem) (H : Heap) (locs : List Loc) (ls : Array Slot) (h : fX7_at_b25 y0 σ = some (r, σ')) (hM : MS D cy ad A s.heap z σ H locs) (hl : lv_has ls 5 []) : W p l e R s m args below meth c H locs 0 0 Q (F0 m 25 ls [.int y0]) := by
  have hx := hC.1
  have hb := hC.2.1
  unfold fX7_at_b25 at h
  obtain ⟨rfl, rfl⟩ := Prod.mk.inj (Option.some.inj h)
  exact Kr _ _ _ _ dX7_at_25 hM
def fX7_at (o0 : Nat) (x1 : Int32) (x2 : Int32) (x3 : Int32) (σ : Mem) : Option (Int32 × Mem) :=
  b2 (fX7_slot x1 x2 x3 σ) fun t1 m2 =>
    if t1 = (-1) then fX7_at_b25 (-1) m2
    else (fR m2 7 0 (some o0)).bind fun t4 =>
      (aI m2 11 t4 t1).bind fun t5 =>
      fX7_at_b25 t5 m2
set_option maxRecDepth 20000 in
theorem wX7_at {r : Int32} {σ' : Mem} (hC : CallFix p m c cX7_at 5 s args WALL RX7) (hG : GS D cy A s) (hR : 2 ≤ R.frames ∧ 72 ≤ R.locals) (Kr : KrI p l e R s m args below meth c cX7_at Q D cy ad A z r σ') (o0 : Nat) (x1 : Int32) (x2 : Int32) (x3 : Int32) (σ : Mem) (H : Heap) (locs : List Loc) (ls : Array Slot) (h : fX7_at o0 x1 x2 x3 σ = some (r, σ')) (hM : MS D cy ad A s.heap z σ H locs) (hl : lv_has ls 5 [(0, va_rf (Option.map ad (some o0))), (1, .int x1), (2, .int x2), (3, .int x3)]) : W p l e R s m args below meth c H locs 0 0 Q (F0 m 0 ls []) := by
  have hx := hC.1
  have hb := hC.2.1
  unfold fX7_at at h
  refine lv_iload_n hx hb dX7_at_0 rfl (lv_at hl 1 rfl) ?_
  refine lv_iload_n hx hb dX7_at_1 rfl (lv_at hl 2 rfl) ?_
  refine lv_iload_n hx hb dX7_at_2 rfl (lv_at hl 3 rfl) ?_
  obtain ⟨t1, m2, e_m2, h⟩ := b2_elim h
  refine cs_X7_22 hC hG hM (cX7_slot_ok e_m2) ⟨by omega, by omega⟩ hl.1 (by first | exact Nat.le_of_ble_eq_true rfl | simp [va_cat, vcI, vcL, vcR]) dX7_at_3 (fun H locs hM => ?_)
  refine lv_istore (lv' := [(4, .int t1), (0, va_rf (Option.map ad (some o0))), (1, .int x1), (2, .int x2), (3, .int x3)]) hx hb dX7_at_6 hl (by decide) (by first | rfl | simp [va_cat]) (fun ls hl => ?_)
  refine lv_iload hx hb dX7_at_8 (lv_at hl 0 rfl) ?_
  refine lv_iconst (v := (-1)) hx hb dX7_at_10 (by decide) ?_
  refine lv_icmp_ne (tgt := 18) hx hb dX7_at_11 (by decide) (fun c3 => ?_) (fun c3 => ?_)
  · rw [if_neg c3] at h
    refine lr_aload_n hx hb dX7_at_18 rfl (lv_at hl 1 rfl) ?_
    obtain ⟨t4, e_t4, h⟩ := bn h
    refine gf_X7_9 hC hG hM e_t4 dX7_at_19 ?_
    refine lv_iload hx hb dX7_at_22 (lv_at hl 0 rfl) ?_
    obtain ⟨t5, e_t5, h⟩ := bn h
    refine g_iald hx hb hG hM e_t5 dX7_at_24 ?_
    exact wX7_at_b25 hC hG hR Kr _ _ _ _ _ h hM (lv_sub hl [] rfl)
  · rw [if_pos c3] at h
    refine lv_iconst (v := (-1)) hx hb dX7_at_14 (by decide) ?_
    refine lv_goto (tgt := 25) hx hb dX7_at_15 (by decide) ?_
    exact wX7_at_b25 hC hG hR Kr _ _ _ _ _ h hM (lv_sub hl [] rfl)
theorem cX7_at_ok {l : Launch} {D : va_G} {cy : Nat → ClassId} {ad : Nat → Nat} {A : Nat → Prop} {z : Nat} {r : Int32} {σ' : Mem} {o0 : Nat} {x1 : Int32} {x2 : Int32} {x3 : Int32} {σ : Mem} (h : fX7_at o0 x1 x2 x3 σ = some (r, σ')) : CtI l yX7_at cX7_at 5 (some .int) 2 [.ref (ad o0), .int x1, .int x2, .int x3] D cy ad A z σ r σ' :=
  enterI (own := RX7) (by decide) rfl (Nat.le_of_ble_eq_true rfl) rfl (fun p e s m below meth c Q ls hC hG hM Kr hl => wX7_at hC hG ⟨Nat.le_refl _, Nat.le_refl _⟩ Kr _ _ _ _ _ _ _ _ h hM hl)
/-! X7_take (LTariffDesk$Tape;III)I -/
def fX7_take_b119  (x6 : Int32)  (σ : Mem) : Option (Int32 × Mem) :=
  some (x6, σ)
set_option maxRecDepth 20000 in
theorem wX7_take_b119 {r : Int32} {σ' : Mem} (hC : CallFix p m c cX7_take 8 s args WALL RX7) (hG : GS D cy A s) (hR : 2 ≤ R.frames ∧ 72 ≤ R.locals) (Kr : KrI p l e R s m args below meth c cX7_take Q D cy ad A z r σ')  (x6 : Int32)  (σ : Mem) (H : Heap) (locs : List Loc) (ls : Array Slot) (h : fX7_take_b119 x6 σ = some (r, σ')) (hM : MS D cy ad A s.heap z σ H locs) (hl : lv_has ls 8 [(6, .int x6)]) : W p l e R s m args below meth c H locs 0 0 Q (F0 m 119 ls []) := by
  have hx := hC.1
  have hb := hC.2.1
  unfold fX7_take_b119 at h
  refine lv_iload hx hb dX7_take_119 (lv_at hl 0 rfl) ?_
  obtain ⟨rfl, rfl⟩ := Prod.mk.inj (Option.some.inj h)
  exact Kr _ _ _ _ dX7_take_121 hM
def fX7_take_b77  : Nat → Nat → (Option Nat) → Int32 → Int32 → Int32 → Mem → Option (Int32 × Mem)
  | 0, _, _, _, _, _, _ => none
  | n + 1, o0, x1, x5, x6, x7, σ =>
    if x6 ≤ x7 then fX7_take_b119 x6 σ
      else (fR σ 7 0 (some o0)).bind fun t2 =>
        (aL σ 11 t2).bind fun t3 =>
        if t3 ≤ (x5 + x7) then fX7_take_b119 x6 σ
        else (fR σ 7 0 (some o0)).bind fun t5 =>
          b2 (fX7_numberAt x1 x7 σ) fun t6 m7 =>
          (wI m7 11 t5 (x5 + x7) t6).bind fun m8 =>
          bd (x7 + 1) fun t9 =>
          (fX7_take_b77 n) o0 x1 x5 x6 t9 m8
set_option maxRecDepth 20000 in
theorem wX7_take_b77 {r : Int32} {σ' : Mem} (hC : CallFix p m c cX7_take 8 s args WALL RX7) (hG : GS D cy A s) (hR : 2 ≤ R.frames ∧ 72 ≤ R.locals) (Kr : KrI p l e R s m args below meth c cX7_take Q D cy ad A z r σ')  : ∀ (n : Nat) (o0 : Nat) (x1 : Option Nat) (x5 : Int32) (x6 : Int32) (x7 : Int32)  (σ : Mem) (H : Heap) (locs : List Loc) (ls : Array Slot), fX7_take_b77 n o0 x1 x5 x6 x7 σ = some (r, σ') → MS D cy ad A s.heap z σ H locs → lv_has ls 8 [(0, va_rf (Option.map ad (some o0))), (1, va_rf (Option.map ad x1)), (5, .int x5), (6, .int x6), (7, .int x7)] → W p l e R s m args below meth c H locs 0 0 Q (F0 m 77 ls []) := by
  have hx := hC.1
  have hb := hC.2.1
  intro n
  induction n with
  | zero =>
    intro o0 x1 x5 x6 x7 σ H locs ls h
    cases h
  | succ n ih =>
    intro o0 x1 x5 x6 x7 σ H locs ls h hM hl
    rw [fX7_take_b77] at h
    refine lv_iload hx hb dX7_take_77 (lv_at hl 4 rfl) ?_
    refine lv_iload hx hb dX7_take_79 (lv_at hl 3 rfl) ?_
    refine lv_icmp_ge (tgt := 119) hx hb dX7_take_81 (by decide) (fun c1 => ?_) (fun c1 => ?_)
    · rw [if_pos c1] at h
      exact wX7_take_b119 hC hG hR Kr _ _ _ _ _ h hM (lv_sub hl [3] rfl)
    · rw [if_neg c1] at h
      refine lv_iload hx hb dX7_take_84 (lv_at hl 2 rfl) ?_
      refine lv_iload hx hb dX7_take_86 (lv_at hl 4 rfl) ?_
      refine lv_iadd hx hb dX7_take_88 ?_
      refine lr_aload_n hx hb dX7_take_89 rfl (lv_at hl 0 rfl) ?_
      obtain ⟨t2, e_t2, h⟩ := bn h
      refine gf_X7_9 hC hG hM e_t2 dX7_take_90 ?_
      obtain ⟨t3, e_t3, h⟩ := bn h
      refine g_alen (kA := 11) (by decide) hx hb hG hM e_t3 dX7_take_93 ?_
      refine lv_icmp_ge (tgt := 119) hx hb dX7_take_94 (by decide) (fun c4 => ?_) (fun c4 => ?_)
      · rw [if_pos c4] at h
        exact wX7_take_b119 hC hG hR Kr _ _ _ _ _ h hM (lv_sub hl [3] rfl)
      · rw [if_neg c4] at h
        refine lr_aload_n hx hb dX7_take_97 rfl (lv_at hl 0 rfl) ?_
        obtain ⟨t5, e_t5, h⟩ := bn h
        refine gf_X7_9 hC hG hM e_t5 dX7_take_98 ?_
        refine lv_iload hx hb dX7_take_101 (lv_at hl 2 rfl) ?_
        refine lv_iload hx hb dX7_take_103 (lv_at hl 4 rfl) ?_
        refine lv_iadd hx hb dX7_take_105 ?_
        refine lr_aload_n hx hb dX7_take_106 rfl (lv_at hl 1 rfl) ?_
        refine lv_iload hx hb dX7_take_107 (lv_at hl 4 rfl) ?_
        obtain ⟨t6, m7, e_m7, h⟩ := b2_elim h
        refine cs_X7_32 hC hG hM (cX7_numberAt_ok e_m7) ⟨by omega, by omega⟩ hl.1 (by first | exact Nat.le_of_ble_eq_true rfl | simp [va_cat, vcI, vcL, vcR]) dX7_take_109 (fun H locs hM => ?_)
        obtain ⟨m8, e_m8, h⟩ := bn h
        refine g_iast hx hb hG hM e_m8 dX7_take_112 (fun H locs hM => ?_)
        obtain ⟨t9, e_t9, h⟩ := bd_elim h
        refine lv_iinc (v := t9) (lv' := [(7, .int t9), (0, va_rf (Option.map ad (some o0))), (1, va_rf (Option.map ad x1)), (5, .int x5), (6, .int x6)]) hx hb dX7_take_113 hl (k := 4) rfl (by rw [e_t9]; rfl) (by decide) (by first | rfl | simp [va_cat]) (fun ls hl => ?_)
        refine lv_goto (tgt := 77) hx hb dX7_take_116 (by decide) ?_
        exact ih _ _ _ _ _ _ _ _ _ h hM (lv_sub hl [1, 2, 3, 4, 0] rfl)
def fX7_take_b74  (o0 : Nat) (x1 : Option Nat) (x5 : Int32) (x6 : Int32)  (σ : Mem) : Option (Int32 × Mem) :=
  fX7_take_b77 FU o0 x1 x5 x6 0 σ
set_option maxRecDepth 20000 in
theorem wX7_take_b74 {r : Int32} {σ' : Mem} (hC : CallFix p m c cX7_take 8 s args WALL RX7) (hG : GS D cy A s) (hR : 2 ≤ R.frames ∧ 72 ≤ R.locals) (Kr : KrI p l e R s m args below meth c cX7_take Q D cy ad A z r σ')  (o0 : Nat) (x1 : Option Nat) (x5 : Int32) (x6 : Int32)  (σ : Mem) (H : Heap) (locs : List Loc) (ls : Array Slot) (h : fX7_take_b74 o0 x1 x5 x6 σ = some (r, σ')) (hM : MS D cy ad A s.heap z σ H locs) (hl : lv_has ls 8 [(0, va_rf (Option.map ad (some o0))), (1, va_rf (Option.map ad x1)), (5, .int x5), (6, .int x6)]) : W p l e R s m args below meth c H locs 0 0 Q (F0 m 74 ls []) := by
  have hx := hC.1
  have hb := hC.2.1
  unfold fX7_take_b74 at h
  refine lv_iconst (v := 0) hx hb dX7_take_74 (by decide) ?_
  refine lv_istore (lv' := [(7, .int 0), (0, va_rf (Option.map ad (some o0))), (1, va_rf (Option.map ad x1)), (5, .int x5), (6, .int x6)]) hx hb dX7_take_75 hl (by decide) (by first | rfl | simp [va_cat]) (fun ls hl => ?_)
  exact wX7_take_b77 hC hG hR Kr FU _ _ _ _ _ _ _ _ _ h hM (lv_sub hl [1, 2, 3, 4, 0] rfl)
def fX7_take_b47  : Nat → Nat → (Option Nat) → Int32 → Int32 → Int32 → Mem → Option (Int32 × Mem)
  | 0, _, _, _, _, _, _ => none
  | n + 1, o0, x1, x5, x6, x7, σ =>
    if x6 ≤ x7 then fX7_take_b74 o0 x1 x5 x6 σ
      else b2 (fX7_numberAt x1 x7 σ) fun t2 m3 =>
        if t2 ≤ 20000 then bd (x7 + 1) fun t5 =>
          (fX7_take_b47 n) o0 x1 x5 x6 t5 m3
        else some ((-1), m3)
set_option maxRecDepth 20000 in
theorem wX7_take_b47 {r : Int32} {σ' : Mem} (hC : CallFix p m c cX7_take 8 s args WALL RX7) (hG : GS D cy A s) (hR : 2 ≤ R.frames ∧ 72 ≤ R.locals) (Kr : KrI p l e R s m args below meth c cX7_take Q D cy ad A z r σ')  : ∀ (n : Nat) (o0 : Nat) (x1 : Option Nat) (x5 : Int32) (x6 : Int32) (x7 : Int32)  (σ : Mem) (H : Heap) (locs : List Loc) (ls : Array Slot), fX7_take_b47 n o0 x1 x5 x6 x7 σ = some (r, σ') → MS D cy ad A s.heap z σ H locs → lv_has ls 8 [(0, va_rf (Option.map ad (some o0))), (1, va_rf (Option.map ad x1)), (5, .int x5), (6, .int x6), (7, .int x7)] → W p l e R s m args below meth c H locs 0 0 Q (F0 m 47 ls []) := by
  have hx := hC.1
  have hb := hC.2.1
  intro n
  induction n with
  | zero =>
    intro o0 x1 x5 x6 x7 σ H locs ls h
    cases h
  | succ n ih =>
    intro o0 x1 x5 x6 x7 σ H locs ls h hM hl
    rw [fX7_take_b47] at h
    refine lv_iload hx hb dX7_take_47 (lv_at hl 4 rfl) ?_
    refine lv_iload hx hb dX7_take_49 (lv_at hl 3 rfl) ?_
    refine lv_icmp_ge (tgt := 74) hx hb dX7_take_51 (by decide) (fun c1 => ?_) (fun c1 => ?_)
    · rw [if_pos c1] at h
      exact wX7_take_b74 hC hG hR Kr _ _ _ _ _ _ _ _ h hM (lv_sub hl [0, 1, 2, 3] rfl)
    · rw [if_neg c1] at h
      refine lr_aload_n hx hb dX7_take_54 rfl (lv_at hl 1 rfl) ?_
      refine lv_iload hx hb dX7_take_55 (lv_at hl 4 rfl) ?_
      obtain ⟨t2, m3, e_m3, h⟩ := b2_elim h
      refine cs_X7_32 hC hG hM (cX7_numberAt_ok e_m3) ⟨by omega, by omega⟩ hl.1 (by first | exact Nat.le_of_ble_eq_true rfl | simp [va_cat, vcI, vcL, vcR]) dX7_take_57 (fun H locs hM => ?_)
      refine lv_sipush (v := 20000) hx hb dX7_take_60 (by decide) ?_
      refine lv_icmp_le (tgt := 68) hx hb dX7_take_63 (by decide) (fun c4 => ?_) (fun c4 => ?_)
      · rw [if_pos c4] at h
        obtain ⟨t5, e_t5, h⟩ := bd_elim h
        refine lv_iinc (v := t5) (lv' := [(7, .int t5), (0, va_rf (Option.map ad (some o0))), (1, va_rf (Option.map ad x1)), (5, .int x5), (6, .int x6)]) hx hb dX7_take_68 hl (k := 4) rfl (by rw [e_t5]; rfl) (by decide) (by first | rfl | simp [va_cat]) (fun ls hl => ?_)
        refine lv_goto (tgt := 47) hx hb dX7_take_71 (by decide) ?_
        exact ih _ _ _ _ _ _ _ _ _ h hM (lv_sub hl [1, 2, 3, 4, 0] rfl)
      · rw [if_neg c4] at h
        refine lv_iconst (v := (-1)) hx hb dX7_take_66 (by decide) ?_
        obtain ⟨rfl, rfl⟩ := Prod.mk.inj (Option.some.inj h)
        exact Kr _ _ _ _ dX7_take_67 hM
def fX7_take_b42    (σ : Mem) : Option (Int32 × Mem) :=
  some ((-1), σ)
set_option maxRecDepth 20000 in
theorem wX7_take_b42 {r : Int32} {σ' : Mem} (hC : CallFix p m c cX7_take 8 s args WALL RX7) (hG : GS D cy A s) (hR : 2 ≤ R.frames ∧ 72 ≤ R.locals) (Kr : KrI p l e R s m args below meth c cX7_take Q D cy ad A z r σ')    (σ : Mem) (H : Heap) (locs : List Loc) (ls : Array Slot) (h : fX7_take_b42  σ = some (r, σ')) (hM : MS D cy ad A s.heap z σ H locs) (hl : lv_has ls 8 []) : W p l e R s m args below meth c H locs 0 0 Q (F0 m 42 ls []) := by
  have hx := hC.1
  have hb := hC.2.1
  unfold fX7_take_b42 at h
  refine lv_iconst (v := (-1)) hx hb dX7_take_42 (by decide) ?_
  obtain ⟨rfl, rfl⟩ := Prod.mk.inj (Option.some.inj h)
  exact Kr _ _ _ _ dX7_take_43 hM
def fX7_take (o0 : Nat) (x1 : Option Nat) (x2 : Int32) (x3 : Int32) (x4 : Int32) (σ : Mem) : Option (Int32 × Mem) :=
  b2 (fX7_slot x2 x3 x4 σ) fun t1 m2 =>
    (fI m2 6 1 x1).bind fun t3 =>
    bd (t3 / 2) fun t4 =>
    if t1 = (-1) then fX7_take_b42 m2
    else (fI m2 6 1 x1).bind fun t6 =>
      if (t6 - t6 / 2 * 2) = 0 then if t4 ≤ (24 - x4) then fX7_take_b47 FU o0 x1 t1 t4 0 m2
        else fX7_take_b42 m2
      else fX7_take_b42 m2
set_option maxRecDepth 20000 in
theorem wX7_take {r : Int32} {σ' : Mem} (hC : CallFix p m c cX7_take 8 s args WALL RX7) (hG : GS D cy A s) (hR : 2 ≤ R.frames ∧ 72 ≤ R.locals) (Kr : KrI p l e R s m args below meth c cX7_take Q D cy ad A z r σ') (o0 : Nat) (x1 : Option Nat) (x2 : Int32) (x3 : Int32) (x4 : Int32) (σ : Mem) (H : Heap) (locs : List Loc) (ls : Array Slot) (h : fX7_take o0 x1 x2 x3 x4 σ = some (r, σ')) (hM : MS D cy ad A s.heap z σ H locs) (hl : lv_has ls 8 [(0, va_rf (Option.map ad (some o0))), (1, va_rf (Option.map ad x1)), (2, .int x2), (3, .int x3), (4, .int x4)]) : W p l e R s m args below meth c H locs 0 0 Q (F0 m 0 ls []) := by
  have hx := hC.1
  have hb := hC.2.1
  unfold fX7_take at h
  refine lv_iload_n hx hb dX7_take_0 rfl (lv_at hl 2 rfl) ?_
  refine lv_iload_n hx hb dX7_take_1 rfl (lv_at hl 3 rfl) ?_
  refine lv_iload hx hb dX7_take_2 (lv_at hl 4 rfl) ?_
  obtain ⟨t1, m2, e_m2, h⟩ := b2_elim h
  refine cs_X7_22 hC hG hM (cX7_slot_ok e_m2) ⟨by omega, by omega⟩ hl.1 (by first | exact Nat.le_of_ble_eq_true rfl | simp [va_cat, vcI, vcL, vcR]) dX7_take_4 (fun H locs hM => ?_)
  refine lv_istore (lv' := [(5, .int t1), (0, va_rf (Option.map ad (some o0))), (1, va_rf (Option.map ad x1)), (2, .int x2), (3, .int x3), (4, .int x4)]) hx hb dX7_take_7 hl (by decide) (by first | rfl | simp [va_cat]) (fun ls hl => ?_)
  refine lr_aload_n hx hb dX7_take_9 rfl (lv_at hl 2 rfl) ?_
  obtain ⟨t3, e_t3, h⟩ := bn h
  refine gf_X7_26 hC hG hM e_t3 dX7_take_10 ?_
  refine lv_iconst (v := 2) hx hb dX7_take_13 (by decide) ?_
  refine lv_idiv hx hb dX7_take_14 (by decide) ?_
  obtain ⟨t4, e_t4, h⟩ := bd_elim h
  refine lr_nmi e_t4 ?_
  refine lv_istore (lv' := [(6, .int t4), (5, .int t1), (0, va_rf (Option.map ad (some o0))), (1, va_rf (Option.map ad x1)), (2, .int x2), (3, .int x3), (4, .int x4)]) hx hb dX7_take_15 hl (by decide) (by first | rfl | simp [va_cat]) (fun ls hl => ?_)
  refine lv_iload hx hb dX7_take_17 (lv_at hl 1 rfl) ?_
  refine lv_iconst (v := (-1)) hx hb dX7_take_19 (by decide) ?_
  refine lv_icmp_eq (tgt := 42) hx hb dX7_take_20 (by decide) (fun c5 => ?_) (fun c5 => ?_)
  · rw [if_pos c5] at h
    exact wX7_take_b42 hC hG hR Kr _ _ _ _ h hM (lv_sub hl [] rfl)
  · rw [if_neg c5] at h
    refine lr_aload_n hx hb dX7_take_23 rfl (lv_at hl 3 rfl) ?_
    obtain ⟨t6, e_t6, h⟩ := bn h
    refine gf_X7_26 hC hG hM e_t6 dX7_take_24 ?_
    refine lv_iconst (v := 2) hx hb dX7_take_27 (by decide) ?_
    refine lv_irem hx hb dX7_take_28 (by decide) ?_
    refine lv_if_ne (tgt := 42) hx hb dX7_take_29 (by decide) (fun c7 => ?_) (fun c7 => ?_)
    · rw [if_neg c7] at h
      exact wX7_take_b42 hC hG hR Kr _ _ _ _ h hM (lv_sub hl [] rfl)
    · rw [if_pos c7] at h
      refine lv_iload hx hb dX7_take_32 (lv_at hl 0 rfl) ?_
      refine lv_bipush (v := 24) hx hb dX7_take_34 (by decide) ?_
      refine lv_iload hx hb dX7_take_36 (lv_at hl 6 rfl) ?_
      refine lv_isub hx hb dX7_take_38 ?_
      refine lv_icmp_le (tgt := 44) hx hb dX7_take_39 (by decide) (fun c8 => ?_) (fun c8 => ?_)
      · rw [if_pos c8] at h
        refine lv_iconst (v := 0) hx hb dX7_take_44 (by decide) ?_
        refine lv_istore (lv' := [(7, .int 0), (6, .int t4), (5, .int t1), (0, va_rf (Option.map ad (some o0))), (1, va_rf (Option.map ad x1)), (2, .int x2), (3, .int x3), (4, .int x4)]) hx hb dX7_take_45 hl (by decide) (by first | rfl | simp [va_cat]) (fun ls hl => ?_)
        exact wX7_take_b47 hC hG hR Kr FU _ _ _ _ _ _ _ _ _ h hM (lv_sub hl [3, 4, 2, 1, 0] rfl)
      · rw [if_neg c8] at h
        exact wX7_take_b42 hC hG hR Kr _ _ _ _ h hM (lv_sub hl [] rfl)
theorem cX7_take_ok {l : Launch} {D : va_G} {cy : Nat → ClassId} {ad : Nat → Nat} {A : Nat → Prop} {z : Nat} {r : Int32} {σ' : Mem} {o0 : Nat} {x1 : Option Nat} {x2 : Int32} {x3 : Int32} {x4 : Int32} {σ : Mem} (h : fX7_take o0 x1 x2 x3 x4 σ = some (r, σ')) : CtI l yX7_take cX7_take 8 (some .int) 2 [.ref (ad o0), va_rf (Option.map ad x1), .int x2, .int x3, .int x4] D cy ad A z σ r σ' :=
  enterI (own := RX7) (by decide) rfl (by simp [lg_sl, va_cat, vcI, vcL, vcR]) rfl (fun p e s m below meth c Q ls hC hG hM Kr hl => wX7_take hC hG ⟨Nat.le_refl _, Nat.le_refl _⟩ Kr _ _ _ _ _ _ _ _ _ h hM (by simp [lv_args, va_cat, vcI, vcL, vcR] at hl; exact hl))
/-! X8_differenceAt (LTariffDesk$Part;LTariffDesk$Part;I)J -/
def fX8_differenceAt (x0 : Option Nat) (x1 : Option Nat) (x2 : Int32) (σ : Mem) : Option (Int64 × Mem) :=
  (kT σ 0 x0).bind fun k1 =>
    b2 (fX0_centsFor k1 x2 σ) fun t2 m3 =>
    (kT m3 0 x1).bind fun k4 =>
    b2 (fX0_centsFor k4 x2 m3) fun t5 m6 =>
    some (t2 - t5, m6)
set_option maxRecDepth 20000 in
theorem wX8_differenceAt {r : Int64} {σ' : Mem} (hC : CallFix p m c cX8_differenceAt 3 s args WALL RX8) (hG : GS D cy A s) (hR : 2 ≤ R.frames ∧ 72 ≤ R.locals) (Kr : KrL p l e R s m args below meth c cX8_differenceAt Q D cy ad A z r σ') (x0 : Option Nat) (x1 : Option Nat) (x2 : Int32) (σ : Mem) (H : Heap) (locs : List Loc) (ls : Array Slot) (h : fX8_differenceAt x0 x1 x2 σ = some (r, σ')) (hM : MS D cy ad A s.heap z σ H locs) (hl : lv_has ls 3 [(0, va_rf (Option.map ad x0)), (1, va_rf (Option.map ad x1)), (2, .int x2)]) : W p l e R s m args below meth c H locs 0 0 Q (F0 m 0 ls []) := by
  have hx := hC.1
  have hb := hC.2.1
  unfold fX8_differenceAt at h
  refine lr_aload_n hx hb dX8_differenceAt_0 rfl (lv_at hl 0 rfl) ?_
  refine lv_iload_n hx hb dX8_differenceAt_1 rfl (lv_at hl 2 rfl) ?_
  obtain ⟨k1, e_k1, h⟩ := bn h
  obtain ⟨t2, m3, e_m3, h⟩ := b2_elim h
  refine cs_X8_205 e_k1 hC hG hM (cX0_centsFor_ok e_m3) ⟨by omega, by omega⟩ hl.1 (by first | exact Nat.le_of_ble_eq_true rfl | simp [va_cat, vcI, vcL, vcR]) dX8_differenceAt_2 (fun H locs hM => ?_)
  refine lr_aload_n hx hb dX8_differenceAt_5 rfl (lv_at hl 1 rfl) ?_
  refine lv_iload_n hx hb dX8_differenceAt_6 rfl (lv_at hl 2 rfl) ?_
  obtain ⟨k4, e_k4, h⟩ := bn h
  obtain ⟨t5, m6, e_m6, h⟩ := b2_elim h
  refine cs_X8_205 e_k4 hC hG hM (cX0_centsFor_ok e_m6) ⟨by omega, by omega⟩ hl.1 (by first | exact Nat.le_of_ble_eq_true rfl | simp [va_cat, vcI, vcL, vcR]) dX8_differenceAt_7 (fun H locs hM => ?_)
  refine lv_lsub hx hb dX8_differenceAt_10 ?_
  obtain ⟨rfl, rfl⟩ := Prod.mk.inj (Option.some.inj h)
  exact Kr _ _ _ _ dX8_differenceAt_11 hM
theorem cX8_differenceAt_ok {l : Launch} {D : va_G} {cy : Nat → ClassId} {ad : Nat → Nat} {A : Nat → Prop} {z : Nat} {r : Int64} {σ' : Mem} {x0 : Option Nat} {x1 : Option Nat} {x2 : Int32} {σ : Mem} (h : fX8_differenceAt x0 x1 x2 σ = some (r, σ')) : CtL l yX8_differenceAt cX8_differenceAt 3 (some .long) 2 [va_rf (Option.map ad x0), va_rf (Option.map ad x1), .int x2] D cy ad A z σ r σ' :=
  enterL (own := RX8) (by decide) rfl (by simp [lg_sl, va_cat, vcI, vcL, vcR]) rfl (fun p e s m below meth c Q ls hC hG hM Kr hl => wX8_differenceAt hC hG ⟨Nat.le_refl _, Nat.le_refl _⟩ Kr _ _ _ _ _ _ _ h hM (by simp [lv_args, va_cat, vcI, vcL, vcR] at hl; exact hl))
/-! X9_mayHave (III)Z -/
def fX9_mayHave_b42    (σ : Mem) : Option (Int32 × Mem) :=
  some (1, σ)
set_option maxRecDepth 20000 in
theorem wX9_mayHave_b42 {r : Int32} {σ' : Mem} (hC : CallFix p m c cX9_mayHave 5 s args WALL RX9) (hG : GS D cy A s) (hR : 2 ≤ R.frames ∧ 72 ≤ R.locals) (Kr : KrZ p l e R s m args below meth c cX9_mayHave Q D cy ad A z r σ')    (σ : Mem) (H : Heap) (locs : List Loc) (ls : Array Slot) (h : fX9_mayHave_b42  σ = some (r, σ')) (hM : MS D cy ad A s.heap z σ H locs) (hl : lv_has ls 5 []) : W p l e R s m args below meth c H locs 0 0 Q (F0 m 42 ls []) := by
  have hx := hC.1
  have hb := hC.2.1
  unfold fX9_mayHave_b42 at h
  refine lv_iconst (v := 1) hx hb dX9_mayHave_42 (by decide) ?_
  cases h
  exact Kr _ _ _ _ dX9_mayHave_43 rfl hM
def fX9_mayHave_b36 (rc3 : Nat → Int32 → Int32 → Int32 → Int32 → Mem → Option (Int32 × Mem)) (o0 : Nat) (x1 : Int32) (x2 : Int32) (x3 : Int32) (x4 : Int32)  (σ : Mem) : Option (Int32 × Mem) :=
  bd (x4 + 1) fun t1 =>
    rc3 o0 x1 x2 x3 t1 σ
set_option maxRecDepth 20000 in
theorem wX9_mayHave_b36 {r : Int32} {σ' : Mem} (hC : CallFix p m c cX9_mayHave 5 s args WALL RX9) (hG : GS D cy A s) (hR : 2 ≤ R.frames ∧ 72 ≤ R.locals) (Kr : KrZ p l e R s m args below meth c cX9_mayHave Q D cy ad A z r σ') {rc3 : Nat → Int32 → Int32 → Int32 → Int32 → Mem → Option (Int32 × Mem)} (Kc3 : ∀ (o0 : Nat) (x1 : Int32) (x2 : Int32) (x3 : Int32) (x4 : Int32) (τ : Mem) (H : Heap) (locs : List Loc) (ls : Array Slot), rc3 o0 x1 x2 x3 x4 τ = some (r, σ') → MS D cy ad A s.heap z τ H locs → lv_has ls 5 [(0, va_rf (Option.map ad (some o0))), (1, .int x1), (2, .int x2), (3, .int x3), (4, .int x4)] → W p l e R s m args below meth c H locs 0 0 Q (F0 m 3 ls [])) (o0 : Nat) (x1 : Int32) (x2 : Int32) (x3 : Int32) (x4 : Int32)  (σ : Mem) (H : Heap) (locs : List Loc) (ls : Array Slot) (h : fX9_mayHave_b36 rc3 o0 x1 x2 x3 x4 σ = some (r, σ')) (hM : MS D cy ad A s.heap z σ H locs) (hl : lv_has ls 5 [(0, va_rf (Option.map ad (some o0))), (1, .int x1), (2, .int x2), (3, .int x3), (4, .int x4)]) : W p l e R s m args below meth c H locs 0 0 Q (F0 m 36 ls []) := by
  have hx := hC.1
  have hb := hC.2.1
  unfold fX9_mayHave_b36 at h
  obtain ⟨t1, e_t1, h⟩ := bd_elim h
  refine lv_iinc (v := t1) (lv' := [(4, .int t1), (0, va_rf (Option.map ad (some o0))), (1, .int x1), (2, .int x2), (3, .int x3)]) hx hb dX9_mayHave_36 hl (k := 4) rfl (by rw [e_t1]; rfl) (by decide) (by first | rfl | simp [va_cat]) (fun ls hl => ?_)
  refine lv_goto (tgt := 3) hx hb dX9_mayHave_39 (by decide) ?_
  exact Kc3 _ _ _ _ _ _ _ _ _ h hM (lv_sub hl [1, 2, 3, 4, 0] rfl)
def fX9_mayHave_b3  : Nat → Nat → Int32 → Int32 → Int32 → Int32 → Mem → Option (Int32 × Mem)
  | 0, _, _, _, _, _, _ => none
  | n + 1, o0, x1, x2, x3, x4, σ =>
    if 4 ≤ x4 then fX9_mayHave_b42 σ
      else (fR σ 9 16 (some o0)).bind fun t2 =>
        (aI σ 13 t2 ((4 * x1) + x4)).bind fun t3 =>
        if t3 = 0 then (kT σ 9 (some o0)).bind fun k5 =>
          b2 (fX9_together k5 x2 x4 x3 σ) fun t6 m7 =>
          if t6 ≤ 0 then fX9_mayHave_b36 (fX9_mayHave_b3 n) o0 x1 x2 x3 x4 m7
          else some (0, m7)
        else fX9_mayHave_b36 (fX9_mayHave_b3 n) o0 x1 x2 x3 x4 σ
set_option maxRecDepth 20000 in
theorem wX9_mayHave_b3 {r : Int32} {σ' : Mem} (hC : CallFix p m c cX9_mayHave 5 s args WALL RX9) (hG : GS D cy A s) (hR : 2 ≤ R.frames ∧ 72 ≤ R.locals) (Kr : KrZ p l e R s m args below meth c cX9_mayHave Q D cy ad A z r σ')  : ∀ (n : Nat) (o0 : Nat) (x1 : Int32) (x2 : Int32) (x3 : Int32) (x4 : Int32)  (σ : Mem) (H : Heap) (locs : List Loc) (ls : Array Slot), fX9_mayHave_b3 n o0 x1 x2 x3 x4 σ = some (r, σ') → MS D cy ad A s.heap z σ H locs → lv_has ls 5 [(0, va_rf (Option.map ad (some o0))), (1, .int x1), (2, .int x2), (3, .int x3), (4, .int x4)] → W p l e R s m args below meth c H locs 0 0 Q (F0 m 3 ls []) := by
  have hx := hC.1
  have hb := hC.2.1
  intro n
  induction n with
  | zero =>
    intro o0 x1 x2 x3 x4 σ H locs ls h
    cases h
  | succ n ih =>
    intro o0 x1 x2 x3 x4 σ H locs ls h hM hl
    rw [fX9_mayHave_b3] at h
    refine lv_iload hx hb dX9_mayHave_3 (lv_at hl 4 rfl) ?_
    refine lv_iconst (v := 4) hx hb dX9_mayHave_5 (by decide) ?_
    refine lv_icmp_ge (tgt := 42) hx hb dX9_mayHave_6 (by decide) (fun c1 => ?_) (fun c1 => ?_)
    · rw [if_pos c1] at h
      exact wX9_mayHave_b42 hC hG hR Kr _ _ _ _ h hM (lv_sub hl [] rfl)
    · rw [if_neg c1] at h
      refine lr_aload_n hx hb dX9_mayHave_9 rfl (lv_at hl 0 rfl) ?_
      obtain ⟨t2, e_t2, h⟩ := bn h
      refine gf_X9_29 hC hG hM e_t2 dX9_mayHave_10 ?_
      refine lv_iconst (v := 4) hx hb dX9_mayHave_13 (by decide) ?_
      refine lv_iload_n hx hb dX9_mayHave_14 rfl (lv_at hl 1 rfl) ?_
      refine lv_imul hx hb dX9_mayHave_15 ?_
      refine lv_iload hx hb dX9_mayHave_16 (lv_at hl 4 rfl) ?_
      refine lv_iadd hx hb dX9_mayHave_18 ?_
      obtain ⟨t3, e_t3, h⟩ := bn h
      refine g_zald hx hb hG hM e_t3 dX9_mayHave_19 ?_
      refine lv_if_ne (tgt := 36) hx hb dX9_mayHave_20 (by decide) (fun c4 => ?_) (fun c4 => ?_)
      · rw [if_neg c4] at h
        exact wX9_mayHave_b36 hC hG hR Kr ih _ _ _ _ _ _ _ _ _ h hM (lv_sub hl [0, 1, 2, 3, 4] rfl)
      · rw [if_pos c4] at h
        refine lr_aload_n hx hb dX9_mayHave_23 rfl (lv_at hl 0 rfl) ?_
        refine lv_iload_n hx hb dX9_mayHave_24 rfl (lv_at hl 2 rfl) ?_
        refine lv_iload hx hb dX9_mayHave_25 (lv_at hl 4 rfl) ?_
        refine lv_iload_n hx hb dX9_mayHave_27 rfl (lv_at hl 3 rfl) ?_
        obtain ⟨k5, e_k5, h⟩ := bn h
        obtain ⟨t6, m7, e_m7, h⟩ := b2_elim h
        refine cs_X9_235 e_k5 hC hG hM (cX9_together_ok e_m7) ⟨by omega, by omega⟩ hl.1 (by first | exact Nat.le_of_ble_eq_true rfl | simp [va_cat, vcI, vcL, vcR]) dX9_mayHave_28 (fun H locs hM => ?_)
        refine lv_if_le (tgt := 36) hx hb dX9_mayHave_31 (by decide) (fun c8 => ?_) (fun c8 => ?_)
        · rw [if_pos c8] at h
          exact wX9_mayHave_b36 hC hG hR Kr ih _ _ _ _ _ _ _ _ _ h hM (lv_sub hl [0, 1, 2, 3, 4] rfl)
        · rw [if_neg c8] at h
          refine lv_iconst (v := 0) hx hb dX9_mayHave_34 (by decide) ?_
          cases h
          exact Kr _ _ _ _ dX9_mayHave_35 rfl hM
def fX9_mayHave (o0 : Nat) (x1 : Int32) (x2 : Int32) (x3 : Int32) (σ : Mem) : Option (Int32 × Mem) :=
  fX9_mayHave_b3 FU o0 x1 x2 x3 0 σ
set_option maxRecDepth 20000 in
theorem wX9_mayHave {r : Int32} {σ' : Mem} (hC : CallFix p m c cX9_mayHave 5 s args WALL RX9) (hG : GS D cy A s) (hR : 2 ≤ R.frames ∧ 72 ≤ R.locals) (Kr : KrZ p l e R s m args below meth c cX9_mayHave Q D cy ad A z r σ') (o0 : Nat) (x1 : Int32) (x2 : Int32) (x3 : Int32) (σ : Mem) (H : Heap) (locs : List Loc) (ls : Array Slot) (h : fX9_mayHave o0 x1 x2 x3 σ = some (r, σ')) (hM : MS D cy ad A s.heap z σ H locs) (hl : lv_has ls 5 [(0, va_rf (Option.map ad (some o0))), (1, .int x1), (2, .int x2), (3, .int x3)]) : W p l e R s m args below meth c H locs 0 0 Q (F0 m 0 ls []) := by
  have hx := hC.1
  have hb := hC.2.1
  unfold fX9_mayHave at h
  refine lv_iconst (v := 0) hx hb dX9_mayHave_0 (by decide) ?_
  refine lv_istore (lv' := [(4, .int 0), (0, va_rf (Option.map ad (some o0))), (1, .int x1), (2, .int x2), (3, .int x3)]) hx hb dX9_mayHave_1 hl (by decide) (by first | rfl | simp [va_cat]) (fun ls hl => ?_)
  exact wX9_mayHave_b3 hC hG hR Kr FU _ _ _ _ _ _ _ _ _ h hM (lv_sub hl [1, 2, 3, 4, 0] rfl)
theorem cX9_mayHave_ok {l : Launch} {D : va_G} {cy : Nat → ClassId} {ad : Nat → Nat} {A : Nat → Prop} {z : Nat} {r : Int32} {σ' : Mem} {o0 : Nat} {x1 : Int32} {x2 : Int32} {x3 : Int32} {σ : Mem} (h : fX9_mayHave o0 x1 x2 x3 σ = some (r, σ')) : CtI l yX9_mayHave cX9_mayHave 5 (some .boolean) 2 [.ref (ad o0), .int x1, .int x2, .int x3] D cy ad A z σ r σ' :=
  enterZ (own := RX9) (by decide) rfl (Nat.le_of_ble_eq_true rfl) rfl (fun p e s m below meth c Q ls hC hG hM Kr hl => wX9_mayHave hC hG ⟨Nat.le_refl _, Nat.le_refl _⟩ Kr _ _ _ _ _ _ _ _ h hM hl)
/-! X9_readKey (J)Z -/
def fX9_readKey (o0 : Nat) (x1 : Int64) (σ : Mem) : Option (Int32 × Mem) :=
  (kT σ 9 (some o0)).bind fun k1 =>
    b2 (fX9_isKey k1 x1 σ) fun t2 m3 =>
    if t2 = 0 then (kT m3 9 (some o0)).bind fun k7 =>
      b2 (fX9_bad k7 1 m3) fun t8 m9 =>
      if t8 = 0 ∨ t8 = 1 then some (t8, m9) else none
    else (kT m3 9 (some o0)).bind fun k5 =>
      (fX9_go k5 m3).bind fun m6 =>
      some (1, m6)
set_option maxRecDepth 20000 in
theorem wX9_readKey {r : Int32} {σ' : Mem} (hC : CallFix p m c cX9_readKey 3 s args WALL RX9) (hG : GS D cy A s) (hR : 2 ≤ R.frames ∧ 72 ≤ R.locals) (Kr : KrZ p l e R s m args below meth c cX9_readKey Q D cy ad A z r σ') (o0 : Nat) (x1 : Int64) (σ : Mem) (H : Heap) (locs : List Loc) (ls : Array Slot) (h : fX9_readKey o0 x1 σ = some (r, σ')) (hM : MS D cy ad A s.heap z σ H locs) (hl : lv_has ls 3 [(0, va_rf (Option.map ad (some o0))), (1, .long x1)]) : W p l e R s m args below meth c H locs 0 0 Q (F0 m 0 ls []) := by
  have hx := hC.1
  have hb := hC.2.1
  unfold fX9_readKey at h
  refine lr_aload_n hx hb dX9_readKey_0 rfl (lv_at hl 0 rfl) ?_
  refine lv_lload_n hx hb dX9_readKey_1 rfl (lv_at hl 1 rfl) ?_
  obtain ⟨k1, e_k1, h⟩ := bn h
  obtain ⟨t2, m3, e_m3, h⟩ := b2_elim h
  refine cs_X9_177 e_k1 hC hG hM (cX9_isKey_ok e_m3) ⟨by omega, by omega⟩ hl.1 (by first | exact Nat.le_of_ble_eq_true rfl | simp [va_cat, vcI, vcL, vcR]) dX9_readKey_2 (fun H locs hM => ?_)
  refine lv_if_ne (tgt := 14) hx hb dX9_readKey_5 (by decide) (fun c4 => ?_) (fun c4 => ?_)
  · rw [if_neg c4] at h
    refine lr_aload_n hx hb dX9_readKey_14 rfl (lv_at hl 0 rfl) ?_
    obtain ⟨k5, e_k5, h⟩ := bn h
    obtain ⟨m6, e_m6, h⟩ := bn h
    refine cs_X9_174 e_k5 hC hG hM (cX9_go_ok e_m6) ⟨by omega, by omega⟩ hl.1 (by first | exact Nat.le_of_ble_eq_true rfl | simp [va_cat, vcI, vcL, vcR]) dX9_readKey_15 (fun H locs hM => ?_)
    refine lv_iconst (v := 1) hx hb dX9_readKey_18 (by decide) ?_
    cases h
    exact Kr _ _ _ _ dX9_readKey_19 rfl hM
  · rw [if_pos c4] at h
    refine lr_aload_n hx hb dX9_readKey_8 rfl (lv_at hl 0 rfl) ?_
    refine lv_iconst (v := 1) hx hb dX9_readKey_9 (by decide) ?_
    obtain ⟨k7, e_k7, h⟩ := bn h
    obtain ⟨t8, m9, e_m9, h⟩ := b2_elim h
    refine cs_X9_168 e_k7 hC hG hM (cX9_bad_ok e_m9) ⟨by omega, by omega⟩ hl.1 (by first | exact Nat.le_of_ble_eq_true rfl | simp [va_cat, vcI, vcL, vcR]) dX9_readKey_10 (fun H locs hM => ?_)
    by_cases c10 : t8 = 0 ∨ t8 = 1
    · rw [if_pos c10] at h
      cases h
      exact Kr _ _ _ _ dX9_readKey_13 (nar01 c10) hM
    · rw [if_neg c10] at h
      cases h
theorem cX9_readKey_ok {l : Launch} {D : va_G} {cy : Nat → ClassId} {ad : Nat → Nat} {A : Nat → Prop} {z : Nat} {r : Int32} {σ' : Mem} {o0 : Nat} {x1 : Int64} {σ : Mem} (h : fX9_readKey o0 x1 σ = some (r, σ')) : CtI l yX9_readKey cX9_readKey 3 (some .boolean) 2 [.ref (ad o0), .long x1] D cy ad A z σ r σ' :=
  enterZ (own := RX9) (by decide) rfl (Nat.le_of_ble_eq_true rfl) rfl (fun p e s m below meth c Q ls hC hG hM Kr hl => wX9_readKey hC hG ⟨Nat.le_refl _, Nat.le_refl _⟩ Kr _ _ _ _ _ _ h hM hl)
/-! X9_readNumber (II)Z -/
def fX9_readNumber_b30  (o0 : Nat)  (σ : Mem) : Option (Int32 × Mem) :=
  (kT σ 9 (some o0)).bind fun k1 =>
    b2 (fX9_bad k1 2 σ) fun t2 m3 =>
    if t2 = 0 ∨ t2 = 1 then some (t2, m3) else none
set_option maxRecDepth 20000 in
theorem wX9_readNumber_b30 {r : Int32} {σ' : Mem} (hC : CallFix p m c cX9_readNumber 3 s args WALL RX9) (hG : GS D cy A s) (hR : 2 ≤ R.frames ∧ 72 ≤ R.locals) (Kr : KrZ p l e R s m args below meth c cX9_readNumber Q D cy ad A z r σ')  (o0 : Nat)  (σ : Mem) (H : Heap) (locs : List Loc) (ls : Array Slot) (h : fX9_readNumber_b30 o0 σ = some (r, σ')) (hM : MS D cy ad A s.heap z σ H locs) (hl : lv_has ls 3 [(0, va_rf (Option.map ad (some o0)))]) : W p l e R s m args below meth c H locs 0 0 Q (F0 m 30 ls []) := by
  have hx := hC.1
  have hb := hC.2.1
  unfold fX9_readNumber_b30 at h
  refine lr_aload_n hx hb dX9_readNumber_30 rfl (lv_at hl 0 rfl) ?_
  refine lv_iconst (v := 2) hx hb dX9_readNumber_31 (by decide) ?_
  obtain ⟨k1, e_k1, h⟩ := bn h
  obtain ⟨t2, m3, e_m3, h⟩ := b2_elim h
  refine cs_X9_168 e_k1 hC hG hM (cX9_bad_ok e_m3) ⟨by omega, by omega⟩ hl.1 (by first | exact Nat.le_of_ble_eq_true rfl | simp [va_cat, vcI, vcL, vcR]) dX9_readNumber_32 (fun H locs hM => ?_)
  by_cases c4 : t2 = 0 ∨ t2 = 1
  · rw [if_pos c4] at h
    cases h
    exact Kr _ _ _ _ dX9_readNumber_35 (nar01 c4) hM
  · rw [if_neg c4] at h
    cases h
def fX9_readNumber (o0 : Nat) (x1 : Int32) (x2 : Int32) (σ : Mem) : Option (Int32 × Mem) :=
  (fI σ 9 6 (some o0)).bind fun t1 =>
    if t1 = 3 then (fI σ 9 7 (some o0)).bind fun t3 =>
      if t3 < x1 then fX9_readNumber_b30 o0 σ
      else (fI σ 9 7 (some o0)).bind fun t5 =>
        if t5 ≤ x2 then (fI σ 9 7 (some o0)).bind fun t7 =>
          (pI σ 9 23 (some o0) t7).bind fun m8 =>
          (kT m8 9 (some o0)).bind fun k9 =>
          (fX9_go k9 m8).bind fun m10 =>
          some (1, m10)
        else fX9_readNumber_b30 o0 σ
    else (kT σ 9 (some o0)).bind fun k11 =>
      b2 (fX9_bad k11 1 σ) fun t12 m13 =>
      if t12 = 0 ∨ t12 = 1 then some (t12, m13) else none
set_option maxRecDepth 20000 in
theorem wX9_readNumber {r : Int32} {σ' : Mem} (hC : CallFix p m c cX9_readNumber 3 s args WALL RX9) (hG : GS D cy A s) (hR : 2 ≤ R.frames ∧ 72 ≤ R.locals) (Kr : KrZ p l e R s m args below meth c cX9_readNumber Q D cy ad A z r σ') (o0 : Nat) (x1 : Int32) (x2 : Int32) (σ : Mem) (H : Heap) (locs : List Loc) (ls : Array Slot) (h : fX9_readNumber o0 x1 x2 σ = some (r, σ')) (hM : MS D cy ad A s.heap z σ H locs) (hl : lv_has ls 3 [(0, va_rf (Option.map ad (some o0))), (1, .int x1), (2, .int x2)]) : W p l e R s m args below meth c H locs 0 0 Q (F0 m 0 ls []) := by
  have hx := hC.1
  have hb := hC.2.1
  unfold fX9_readNumber at h
  refine lr_aload_n hx hb dX9_readNumber_0 rfl (lv_at hl 0 rfl) ?_
  obtain ⟨t1, e_t1, h⟩ := bn h
  refine gf_X9_107 hC hG hM e_t1 dX9_readNumber_1 ?_
  refine lv_iconst (v := 3) hx hb dX9_readNumber_4 (by decide) ?_
  refine lv_icmp_eq (tgt := 14) hx hb dX9_readNumber_5 (by decide) (fun c2 => ?_) (fun c2 => ?_)
  · rw [if_pos c2] at h
    refine lr_aload_n hx hb dX9_readNumber_14 rfl (lv_at hl 0 rfl) ?_
    obtain ⟨t3, e_t3, h⟩ := bn h
    refine gf_X9_121 hC hG hM e_t3 dX9_readNumber_15 ?_
    refine lv_iload_n hx hb dX9_readNumber_18 rfl (lv_at hl 1 rfl) ?_
    refine lv_icmp_lt (tgt := 30) hx hb dX9_readNumber_19 (by decide) (fun c4 => ?_) (fun c4 => ?_)
    · rw [if_pos c4] at h
      exact wX9_readNumber_b30 hC hG hR Kr _ _ _ _ _ h hM (lv_sub hl [0] rfl)
    · rw [if_neg c4] at h
      refine lr_aload_n hx hb dX9_readNumber_22 rfl (lv_at hl 0 rfl) ?_
      obtain ⟨t5, e_t5, h⟩ := bn h
      refine gf_X9_121 hC hG hM e_t5 dX9_readNumber_23 ?_
      refine lv_iload_n hx hb dX9_readNumber_26 rfl (lv_at hl 2 rfl) ?_
      refine lv_icmp_le (tgt := 36) hx hb dX9_readNumber_27 (by decide) (fun c6 => ?_) (fun c6 => ?_)
      · rw [if_pos c6] at h
        refine lr_aload_n hx hb dX9_readNumber_36 rfl (lv_at hl 0 rfl) ?_
        refine lr_aload_n hx hb dX9_readNumber_37 rfl (lv_at hl 0 rfl) ?_
        obtain ⟨t7, e_t7, h⟩ := bn h
        refine gf_X9_121 hC hG hM e_t7 dX9_readNumber_38 ?_
        obtain ⟨m8, e_m8, h⟩ := bn h
        refine pf_X9_171 hC hG hM e_m8 dX9_readNumber_41 (fun H locs hM => ?_)
        refine lr_aload_n hx hb dX9_readNumber_44 rfl (lv_at hl 0 rfl) ?_
        obtain ⟨k9, e_k9, h⟩ := bn h
        obtain ⟨m10, e_m10, h⟩ := bn h
        refine cs_X9_174 e_k9 hC hG hM (cX9_go_ok e_m10) ⟨by omega, by omega⟩ hl.1 (by first | exact Nat.le_of_ble_eq_true rfl | simp [va_cat, vcI, vcL, vcR]) dX9_readNumber_45 (fun H locs hM => ?_)
        refine lv_iconst (v := 1) hx hb dX9_readNumber_48 (by decide) ?_
        cases h
        exact Kr _ _ _ _ dX9_readNumber_49 rfl hM
      · rw [if_neg c6] at h
        exact wX9_readNumber_b30 hC hG hR Kr _ _ _ _ _ h hM (lv_sub hl [0] rfl)
  · rw [if_neg c2] at h
    refine lr_aload_n hx hb dX9_readNumber_8 rfl (lv_at hl 0 rfl) ?_
    refine lv_iconst (v := 1) hx hb dX9_readNumber_9 (by decide) ?_
    obtain ⟨k11, e_k11, h⟩ := bn h
    obtain ⟨t12, m13, e_m13, h⟩ := b2_elim h
    refine cs_X9_168 e_k11 hC hG hM (cX9_bad_ok e_m13) ⟨by omega, by omega⟩ hl.1 (by first | exact Nat.le_of_ble_eq_true rfl | simp [va_cat, vcI, vcL, vcR]) dX9_readNumber_10 (fun H locs hM => ?_)
    by_cases c14 : t12 = 0 ∨ t12 = 1
    · rw [if_pos c14] at h
      cases h
      exact Kr _ _ _ _ dX9_readNumber_13 (nar01 c14) hM
    · rw [if_neg c14] at h
      cases h
theorem cX9_readNumber_ok {l : Launch} {D : va_G} {cy : Nat → ClassId} {ad : Nat → Nat} {A : Nat → Prop} {z : Nat} {r : Int32} {σ' : Mem} {o0 : Nat} {x1 : Int32} {x2 : Int32} {σ : Mem} (h : fX9_readNumber o0 x1 x2 σ = some (r, σ')) : CtI l yX9_readNumber cX9_readNumber 3 (some .boolean) 2 [.ref (ad o0), .int x1, .int x2] D cy ad A z σ r σ' :=
  enterZ (own := RX9) (by decide) rfl (Nat.le_of_ble_eq_true rfl) rfl (fun p e s m below meth c Q ls hC hG hM Kr hl => wX9_readNumber hC hG ⟨Nat.le_refl _, Nat.le_refl _⟩ Kr _ _ _ _ _ _ _ h hM hl)
/-! X9_serviceCost (IIII)J -/
def fX9_serviceCost_b34   (y0 : Int64) (σ : Mem) : Option (Int64 × Mem) :=
  some (y0, σ)
set_option maxRecDepth 20000 in
theorem wX9_serviceCost_b34 {r : Int64} {σ' : Mem} (hC : CallFix p m c cX9_serviceCost 5 s args WALL RX9) (hG : GS D cy A s) (hR : 2 ≤ R.frames ∧ 72 ≤ R.locals) (Kr : KrL p l e R s m args below meth c cX9_serviceCost Q D cy ad A z r σ')   (y0 : Int64) (σ : Mem) (H : Heap) (locs : List Loc) (ls : Array Slot) (h : fX9_serviceCost_b34 y0 σ = some (r, σ')) (hM : MS D cy ad A s.heap z σ H locs) (hl : lv_has ls 5 []) : W p l e R s m args below meth c H locs 0 0 Q (F0 m 34 ls [.long y0]) := by
  have hx := hC.1
  have hb := hC.2.1
  unfold fX9_serviceCost_b34 at h
  obtain ⟨rfl, rfl⟩ := Prod.mk.inj (Option.some.inj h)
  exact Kr _ _ _ _ dX9_serviceCost_34 hM
def fX9_serviceCost (o0 : Nat) (x1 : Int32) (x2 : Int32) (x3 : Int32) (x4 : Int32) (σ : Mem) : Option (Int64 × Mem) :=
  (fR σ 9 16 (some o0)).bind fun t1 =>
    (aI σ 13 t1 ((4 * x1) + x3)).bind fun t2 =>
    if t2 = 0 then fX9_serviceCost_b34 0 σ
    else (kT σ 9 (some o0)).bind fun k4 =>
      b2 (fX9_together k4 x2 x3 x4 σ) fun t5 m6 =>
      (kT m6 9 (some o0)).bind fun k7 =>
      b2 (fX9_partCost k7 ((4 * x1) + x3) t5 m6) fun t8 m9 =>
      fX9_serviceCost_b34 t8 m9
set_option maxRecDepth 20000 in
theorem wX9_serviceCost {r : Int64} {σ' : Mem} (hC : CallFix p m c cX9_serviceCost 5 s args WALL RX9) (hG : GS D cy A s) (hR : 2 ≤ R.frames ∧ 72 ≤ R.locals) (Kr : KrL p l e R s m args below meth c cX9_serviceCost Q D cy ad A z r σ') (o0 : Nat) (x1 : Int32) (x2 : Int32) (x3 : Int32) (x4 : Int32) (σ : Mem) (H : Heap) (locs : List Loc) (ls : Array Slot) (h : fX9_serviceCost o0 x1 x2 x3 x4 σ = some (r, σ')) (hM : MS D cy ad A s.heap z σ H locs) (hl : lv_has ls 5 [(0, va_rf (Option.map ad (some o0))), (1, .int x1), (2, .int x2), (3, .int x3), (4, .int x4)]) : W p l e R s m args below meth c H locs 0 0 Q (F0 m 0 ls []) := by
  have hx := hC.1
  have hb := hC.2.1
  unfold fX9_serviceCost at h
  refine lr_aload_n hx hb dX9_serviceCost_0 rfl (lv_at hl 0 rfl) ?_
  obtain ⟨t1, e_t1, h⟩ := bn h
  refine gf_X9_29 hC hG hM e_t1 dX9_serviceCost_1 ?_
  refine lv_iconst (v := 4) hx hb dX9_serviceCost_4 (by decide) ?_
  refine lv_iload_n hx hb dX9_serviceCost_5 rfl (lv_at hl 1 rfl) ?_
  refine lv_imul hx hb dX9_serviceCost_6 ?_
  refine lv_iload_n hx hb dX9_serviceCost_7 rfl (lv_at hl 3 rfl) ?_
  refine lv_iadd hx hb dX9_serviceCost_8 ?_
  obtain ⟨t2, e_t2, h⟩ := bn h
  refine g_zald hx hb hG hM e_t2 dX9_serviceCost_9 ?_
  refine lv_if_eq (tgt := 33) hx hb dX9_serviceCost_10 (by decide) (fun c3 => ?_) (fun c3 => ?_)
  · rw [if_pos c3] at h
    refine lv_lconst (v := 0) hx hb dX9_serviceCost_33 (by decide) ?_
    exact wX9_serviceCost_b34 hC hG hR Kr _ _ _ _ _ h hM (lv_sub hl [] rfl)
  · rw [if_neg c3] at h
    refine lr_aload_n hx hb dX9_serviceCost_13 rfl (lv_at hl 0 rfl) ?_
    refine lv_iconst (v := 4) hx hb dX9_serviceCost_14 (by decide) ?_
    refine lv_iload_n hx hb dX9_serviceCost_15 rfl (lv_at hl 1 rfl) ?_
    refine lv_imul hx hb dX9_serviceCost_16 ?_
    refine lv_iload_n hx hb dX9_serviceCost_17 rfl (lv_at hl 3 rfl) ?_
    refine lv_iadd hx hb dX9_serviceCost_18 ?_
    refine lr_aload_n hx hb dX9_serviceCost_19 rfl (lv_at hl 0 rfl) ?_
    refine lv_iload_n hx hb dX9_serviceCost_20 rfl (lv_at hl 2 rfl) ?_
    refine lv_iload_n hx hb dX9_serviceCost_21 rfl (lv_at hl 3 rfl) ?_
    refine lv_iload hx hb dX9_serviceCost_22 (lv_at hl 4 rfl) ?_
    obtain ⟨k4, e_k4, h⟩ := bn h
    obtain ⟨t5, m6, e_m6, h⟩ := b2_elim h
    refine cs_X9_235 e_k4 hC hG hM (cX9_together_ok e_m6) ⟨by omega, by omega⟩ hl.1 (by first | exact Nat.le_of_ble_eq_true rfl | simp [va_cat, vcI, vcL, vcR]) dX9_serviceCost_24 (fun H locs hM => ?_)
    obtain ⟨k7, e_k7, h⟩ := bn h
    obtain ⟨t8, m9, e_m9, h⟩ := b2_elim h
    refine cs_X9_238 e_k7 hC hG hM (cX9_partCost_ok e_m9) ⟨by omega, by omega⟩ hl.1 (by first | exact Nat.le_of_ble_eq_true rfl | simp [va_cat, vcI, vcL, vcR]) dX9_serviceCost_27 (fun H locs hM => ?_)
    refine lv_goto (tgt := 34) hx hb dX9_serviceCost_30 (by decide) ?_
    exact wX9_serviceCost_b34 hC hG hR Kr _ _ _ _ _ h hM (lv_sub hl [] rfl)
theorem cX9_serviceCost_ok {l : Launch} {D : va_G} {cy : Nat → ClassId} {ad : Nat → Nat} {A : Nat → Prop} {z : Nat} {r : Int64} {σ' : Mem} {o0 : Nat} {x1 : Int32} {x2 : Int32} {x3 : Int32} {x4 : Int32} {σ : Mem} (h : fX9_serviceCost o0 x1 x2 x3 x4 σ = some (r, σ')) : CtL l yX9_serviceCost cX9_serviceCost 5 (some .long) 2 [.ref (ad o0), .int x1, .int x2, .int x3, .int x4] D cy ad A z σ r σ' :=
  enterL (own := RX9) (by decide) rfl (Nat.le_of_ble_eq_true rfl) rfl (fun p e s m below meth c Q ls hC hG hM Kr hl => wX9_serviceCost hC hG ⟨Nat.le_refl _, Nat.le_refl _⟩ Kr _ _ _ _ _ _ _ _ _ h hM hl)
/-! X2_monthCents ([I)J -/
def fX2_monthCents_b58  (x2 : Int64)  (σ : Mem) : Option (Int64 × Mem) :=
  some (x2, σ)
set_option maxRecDepth 20000 in
theorem wX2_monthCents_b58 {r : Int64} {σ' : Mem} (hC : CallFix p m c cX2_monthCents 5 s args WALL RX2) (hG : GS D cy A s) (hR : 3 ≤ R.frames ∧ 108 ≤ R.locals) (Kr : KrL p l e R s m args below meth c cX2_monthCents Q D cy ad A z r σ')  (x2 : Int64)  (σ : Mem) (H : Heap) (locs : List Loc) (ls : Array Slot) (h : fX2_monthCents_b58 x2 σ = some (r, σ')) (hM : MS D cy ad A s.heap z σ H locs) (hl : lv_has ls 5 [(2, .long x2)]) : W p l e R s m args below meth c H locs 0 0 Q (F0 m 58 ls []) := by
  have hx := hC.1
  have hb := hC.2.1
  unfold fX2_monthCents_b58 at h
  refine lv_lload_n hx hb dX2_monthCents_58 rfl (lv_at hl 0 rfl) ?_
  obtain ⟨rfl, rfl⟩ := Prod.mk.inj (Option.some.inj h)
  exact Kr _ _ _ _ dX2_monthCents_59 hM
def fX2_monthCents_b42 (rc9 : Nat → (Option Nat) → Int64 → Int32 → Mem → Option (Int64 × Mem)) (o0 : Nat) (x1 : Option Nat) (x2 : Int64) (x4 : Int32)  (σ : Mem) : Option (Int64 × Mem) :=
  (kT σ 2 (some o0)).bind fun k1 =>
    b2 (fX2_partCents k1 x1 x4 σ) fun t2 m3 =>
    bd (x2 + t2) fun t4 =>
    bd (x4 + 1) fun t5 =>
    rc9 o0 x1 t4 t5 m3
set_option maxRecDepth 20000 in
theorem wX2_monthCents_b42 {r : Int64} {σ' : Mem} (hC : CallFix p m c cX2_monthCents 5 s args WALL RX2) (hG : GS D cy A s) (hR : 3 ≤ R.frames ∧ 108 ≤ R.locals) (Kr : KrL p l e R s m args below meth c cX2_monthCents Q D cy ad A z r σ') {rc9 : Nat → (Option Nat) → Int64 → Int32 → Mem → Option (Int64 × Mem)} (Kc9 : ∀ (o0 : Nat) (x1 : Option Nat) (x2 : Int64) (x4 : Int32) (τ : Mem) (H : Heap) (locs : List Loc) (ls : Array Slot), rc9 o0 x1 x2 x4 τ = some (r, σ') → MS D cy ad A s.heap z τ H locs → lv_has ls 5 [(0, va_rf (Option.map ad (some o0))), (1, va_rf (Option.map ad x1)), (2, .long x2), (4, .int x4)] → W p l e R s m args below meth c H locs 0 0 Q (F0 m 9 ls [])) (o0 : Nat) (x1 : Option Nat) (x2 : Int64) (x4 : Int32)  (σ : Mem) (H : Heap) (locs : List Loc) (ls : Array Slot) (h : fX2_monthCents_b42 rc9 o0 x1 x2 x4 σ = some (r, σ')) (hM : MS D cy ad A s.heap z σ H locs) (hl : lv_has ls 5 [(0, va_rf (Option.map ad (some o0))), (1, va_rf (Option.map ad x1)), (2, .long x2), (4, .int x4)]) : W p l e R s m args below meth c H locs 0 0 Q (F0 m 42 ls []) := by
  have hx := hC.1
  have hb := hC.2.1
  unfold fX2_monthCents_b42 at h
  refine lv_lload_n hx hb dX2_monthCents_42 rfl (lv_at hl 2 rfl) ?_
  refine lr_aload_n hx hb dX2_monthCents_43 rfl (lv_at hl 0 rfl) ?_
  refine lr_aload_n hx hb dX2_monthCents_44 rfl (lv_at hl 1 rfl) ?_
  refine lv_iload hx hb dX2_monthCents_45 (lv_at hl 3 rfl) ?_
  obtain ⟨k1, e_k1, h⟩ := bn h
  obtain ⟨t2, m3, e_m3, h⟩ := b2_elim h
  refine cs_X2_59 e_k1 hC hG hM (cX2_partCents_ok e_m3) ⟨by omega, by omega⟩ hl.1 (by first | exact Nat.le_of_ble_eq_true rfl | simp [va_cat, vcI, vcL, vcR]) dX2_monthCents_47 (fun H locs hM => ?_)
  refine lv_ladd hx hb dX2_monthCents_50 ?_
  obtain ⟨t4, e_t4, h⟩ := bd_elim h
  refine lr_nml e_t4 ?_
  refine lv_lstore_n (lv' := [(2, .long t4), (0, va_rf (Option.map ad (some o0))), (1, va_rf (Option.map ad x1)), (4, .int x4)]) hx hb dX2_monthCents_51 rfl hl (by decide) (by first | rfl | simp [va_cat]) (fun ls hl => ?_)
  obtain ⟨t5, e_t5, h⟩ := bd_elim h
  refine lv_iinc (v := t5) (lv' := [(4, .int t5), (2, .long t4), (0, va_rf (Option.map ad (some o0))), (1, va_rf (Option.map ad x1))]) hx hb dX2_monthCents_52 hl (k := 3) rfl (by rw [e_t5]; rfl) (by decide) (by first | rfl | simp [va_cat]) (fun ls hl => ?_)
  refine lv_goto (tgt := 9) hx hb dX2_monthCents_55 (by decide) ?_
  exact Kc9 _ _ _ _ _ _ _ _ h hM (lv_sub hl [2, 3, 1, 0] rfl)
def fX2_monthCents_b9  : Nat → Nat → (Option Nat) → Int64 → Int32 → Mem → Option (Int64 × Mem)
  | 0, _, _, _, _, _ => none
  | n + 1, o0, x1, x2, x4, σ =>
    if 4 ≤ x4 then fX2_monthCents_b58 x2 σ
      else (aL σ 11 x1).bind fun t2 =>
        if t2 ≤ x4 then fX2_monthCents_b58 x2 σ
        else (aI σ 11 x1 x4).bind fun t4 =>
          if t4 ≤ 0 then fX2_monthCents_b42 (fX2_monthCents_b9 n) o0 x1 x2 x4 σ
          else (kT σ 2 (some o0)).bind fun k6 =>
            b2 (fX2_partFor k6 x4 σ) fun t7 m8 =>
            if t7 = none then some ((-1), m8)
            else fX2_monthCents_b42 (fX2_monthCents_b9 n) o0 x1 x2 x4 m8
set_option maxRecDepth 20000 in
theorem wX2_monthCents_b9 {r : Int64} {σ' : Mem} (hC : CallFix p m c cX2_monthCents 5 s args WALL RX2) (hG : GS D cy A s) (hR : 3 ≤ R.frames ∧ 108 ≤ R.locals) (Kr : KrL p l e R s m args below meth c cX2_monthCents Q D cy ad A z r σ')  : ∀ (n : Nat) (o0 : Nat) (x1 : Option Nat) (x2 : Int64) (x4 : Int32)  (σ : Mem) (H : Heap) (locs : List Loc) (ls : Array Slot), fX2_monthCents_b9 n o0 x1 x2 x4 σ = some (r, σ') → MS D cy ad A s.heap z σ H locs → lv_has ls 5 [(0, va_rf (Option.map ad (some o0))), (1, va_rf (Option.map ad x1)), (2, .long x2), (4, .int x4)] → W p l e R s m args below meth c H locs 0 0 Q (F0 m 9 ls []) := by
  have hx := hC.1
  have hb := hC.2.1
  intro n
  induction n with
  | zero =>
    intro o0 x1 x2 x4 σ H locs ls h
    cases h
  | succ n ih =>
    intro o0 x1 x2 x4 σ H locs ls h hM hl
    rw [fX2_monthCents_b9] at h
    refine lv_iload hx hb dX2_monthCents_9 (lv_at hl 3 rfl) ?_
    refine lv_iconst (v := 4) hx hb dX2_monthCents_11 (by decide) ?_
    refine lv_icmp_ge (tgt := 58) hx hb dX2_monthCents_12 (by decide) (fun c1 => ?_) (fun c1 => ?_)
    · rw [if_pos c1] at h
      exact wX2_monthCents_b58 hC hG hR Kr _ _ _ _ _ h hM (lv_sub hl [2] rfl)
    · rw [if_neg c1] at h
      refine lv_iload hx hb dX2_monthCents_15 (lv_at hl 3 rfl) ?_
      refine lr_aload_n hx hb dX2_monthCents_17 rfl (lv_at hl 1 rfl) ?_
      obtain ⟨t2, e_t2, h⟩ := bn h
      refine g_alen (kA := 11) (by decide) hx hb hG hM e_t2 dX2_monthCents_18 ?_
      refine lv_icmp_ge (tgt := 58) hx hb dX2_monthCents_19 (by decide) (fun c3 => ?_) (fun c3 => ?_)
      · rw [if_pos c3] at h
        exact wX2_monthCents_b58 hC hG hR Kr _ _ _ _ _ h hM (lv_sub hl [2] rfl)
      · rw [if_neg c3] at h
        refine lr_aload_n hx hb dX2_monthCents_22 rfl (lv_at hl 1 rfl) ?_
        refine lv_iload hx hb dX2_monthCents_23 (lv_at hl 3 rfl) ?_
        obtain ⟨t4, e_t4, h⟩ := bn h
        refine g_iald hx hb hG hM e_t4 dX2_monthCents_25 ?_
        refine lv_if_le (tgt := 42) hx hb dX2_monthCents_26 (by decide) (fun c5 => ?_) (fun c5 => ?_)
        · rw [if_pos c5] at h
          exact wX2_monthCents_b42 hC hG hR Kr ih _ _ _ _ _ _ _ _ h hM (lv_sub hl [0, 1, 2, 3] rfl)
        · rw [if_neg c5] at h
          refine lr_aload_n hx hb dX2_monthCents_29 rfl (lv_at hl 0 rfl) ?_
          refine lv_iload hx hb dX2_monthCents_30 (lv_at hl 3 rfl) ?_
          obtain ⟨k6, e_k6, h⟩ := bn h
          obtain ⟨t7, m8, e_m8, h⟩ := b2_elim h
          refine cs_X2_49 e_k6 hC hG hM (cX2_partFor_ok e_m8) ⟨by omega, by omega⟩ hl.1 (by first | exact Nat.le_of_ble_eq_true rfl | simp [va_cat, vcI, vcL, vcR]) dX2_monthCents_32 (fun H locs hM => ?_)
          refine lr_ifnonnull (tgt := 42) hx hb dX2_monthCents_35 (by decide) (fun c9 => ?_) (fun c9 => ?_)
          · rw [if_neg c9] at h
            exact wX2_monthCents_b42 hC hG hR Kr ih _ _ _ _ _ _ _ _ h hM (lv_sub hl [0, 1, 2, 3] rfl)
          · rw [if_pos c9] at h
            refine lv_ldc2 (v := (-1)) hx hb hC.2.2.2.1 (hC.2.2.2.2 _ wk_X2_57) dX2_monthCents_38 ?_
            obtain ⟨rfl, rfl⟩ := Prod.mk.inj (Option.some.inj h)
            exact Kr _ _ _ _ dX2_monthCents_41 hM
def fX2_monthCents (o0 : Nat) (x1 : Option Nat) (σ : Mem) : Option (Int64 × Mem) :=
  (fI σ 2 3 (some o0)).bind fun t1 =>
    bd ((t1 : Int32).toInt64) fun t2 =>
    fX2_monthCents_b9 FU o0 x1 t2 0 σ
set_option maxRecDepth 20000 in
theorem wX2_monthCents {r : Int64} {σ' : Mem} (hC : CallFix p m c cX2_monthCents 5 s args WALL RX2) (hG : GS D cy A s) (hR : 3 ≤ R.frames ∧ 108 ≤ R.locals) (Kr : KrL p l e R s m args below meth c cX2_monthCents Q D cy ad A z r σ') (o0 : Nat) (x1 : Option Nat) (σ : Mem) (H : Heap) (locs : List Loc) (ls : Array Slot) (h : fX2_monthCents o0 x1 σ = some (r, σ')) (hM : MS D cy ad A s.heap z σ H locs) (hl : lv_has ls 5 [(0, va_rf (Option.map ad (some o0))), (1, va_rf (Option.map ad x1))]) : W p l e R s m args below meth c H locs 0 0 Q (F0 m 0 ls []) := by
  have hx := hC.1
  have hb := hC.2.1
  unfold fX2_monthCents at h
  refine lr_aload_n hx hb dX2_monthCents_0 rfl (lv_at hl 0 rfl) ?_
  obtain ⟨t1, e_t1, h⟩ := bn h
  refine gf_X2_29 hC hG hM e_t1 dX2_monthCents_1 ?_
  refine lv_i2l hx hb dX2_monthCents_4 rfl ?_
  obtain ⟨t2, e_t2, h⟩ := bd_elim h
  refine lr_nml e_t2 ?_
  refine lv_lstore_n (lv' := [(2, .long t2), (0, va_rf (Option.map ad (some o0))), (1, va_rf (Option.map ad x1))]) hx hb dX2_monthCents_5 rfl hl (by decide) (by first | rfl | simp [va_cat]) (fun ls hl => ?_)
  refine lv_iconst (v := 0) hx hb dX2_monthCents_6 (by decide) ?_
  refine lv_istore (lv' := [(4, .int 0), (2, .long t2), (0, va_rf (Option.map ad (some o0))), (1, va_rf (Option.map ad x1))]) hx hb dX2_monthCents_7 hl (by decide) (by first | rfl | simp [va_cat]) (fun ls hl => ?_)
  exact wX2_monthCents_b9 hC hG hR Kr FU _ _ _ _ _ _ _ _ h hM (lv_sub hl [2, 3, 1, 0] rfl)
theorem cX2_monthCents_ok {l : Launch} {D : va_G} {cy : Nat → ClassId} {ad : Nat → Nat} {A : Nat → Prop} {z : Nat} {r : Int64} {σ' : Mem} {o0 : Nat} {x1 : Option Nat} {σ : Mem} (h : fX2_monthCents o0 x1 σ = some (r, σ')) : CtL l yX2_monthCents cX2_monthCents 5 (some .long) 3 [.ref (ad o0), va_rf (Option.map ad x1)] D cy ad A z σ r σ' :=
  enterL (own := RX2) (by decide) rfl (by simp [lg_sl, va_cat, vcI, vcL, vcR]) rfl (fun p e s m below meth c Q ls hC hG hM Kr hl => wX2_monthCents hC hG ⟨Nat.le_refl _, Nat.le_refl _⟩ Kr _ _ _ _ _ _ h hM (by simp [lv_args, va_cat, vcI, vcL, vcR] at hl; exact hl))
end WK
