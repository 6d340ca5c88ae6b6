section WK
variable {p : Program} {l : Launch} {e : Env} {R : Room} {s : State} {m : MethodId} {args : Array Value} {below : List Frame} {meth : Method} {c : Code} {Q : State → Prop}
variable {D : va_G} {cy : Nat → ClassId} {ad : Nat → Nat} {A : Nat → Prop} {z : Nat}
/-! X5_search (LTariffDesk$PlanBook;LTariffDesk$UseBook;IIII)J -/
def fX5_search_b122  (o0 : Nat)  (σ : Mem) : Option (Int64 × Mem) :=
  (kT σ 5 (some o0)).bind fun k1 =>
    b2 (fX5_chooseFirst k1 σ) fun t2 m3 =>
    some (t2, m3)
set_option maxRecDepth 20000 in
theorem wX5_search_b122 {r : Int64} {σ' : Mem} (hC : CallFix p m c cX5_search 9 s args WALL RX5) (hG : GS D cy A s) (hR : 5 ≤ R.frames ∧ 180 ≤ R.locals) (Kr : KrL p l e R s m args below meth c cX5_search Q D cy ad A z r σ')  (o0 : Nat)  (σ : Mem) (H : Heap) (locs : List Loc) (ls : Array Slot) (h : fX5_search_b122 o0 σ = some (r, σ')) (hM : MS D cy ad A s.heap z σ H locs) (hl : lv_has ls 9 [(0, va_rf (Option.map ad (some o0)))]) : W p l e R s m args below meth c H locs 0 0 Q (F0 m 122 ls []) := by
  have hx := hC.1
  have hb := hC.2.1
  unfold fX5_search_b122 at h
  refine lr_aload_n hx hb dX5_search_122 rfl (lv_at hl 0 rfl) ?_
  obtain ⟨k1, e_k1, h⟩ := bn h
  obtain ⟨t2, m3, e_m3, h⟩ := b2_elim h
  refine cs_X5_68 e_k1 hC hG hM (cX5_chooseFirst_ok e_m3) ⟨by omega, by omega⟩ hl.1 (by first | exact Nat.le_of_ble_eq_true rfl | simp [va_cat, vcI, vcL, vcR]) dX5_search_123 (fun H locs hM => ?_)
  obtain ⟨rfl, rfl⟩ := Prod.mk.inj (Option.some.inj h)
  exact Kr _ _ _ _ dX5_search_126 hM
def fX5_search_b116 (rc34 : Nat → (Option Nat) → Int32 → Int32 → Int32 → Mem → Option (Int64 × Mem)) (o0 : Nat) (x2 : Option Nat) (x3 : Int32) (x6 : Int32) (x7 : Int32)  (σ : Mem) : Option (Int64 × Mem) :=
  bd (x7 + (-1)) fun t1 =>
    rc34 o0 x2 x3 x6 t1 σ
set_option maxRecDepth 20000 in
theorem wX5_search_b116 {r : Int64} {σ' : Mem} (hC : CallFix p m c cX5_search 9 s args WALL RX5) (hG : GS D cy A s) (hR : 5 ≤ R.frames ∧ 180 ≤ R.locals) (Kr : KrL p l e R s m args below meth c cX5_search Q D cy ad A z r σ') {rc34 : Nat → (Option Nat) → Int32 → Int32 → Int32 → Mem → Option (Int64 × Mem)} (Kc34 : ∀ (o0 : Nat) (x2 : Option Nat) (x3 : Int32) (x6 : Int32) (x7 : Int32) (τ : Mem) (H : Heap) (locs : List Loc) (ls : Array Slot), rc34 o0 x2 x3 x6 x7 τ = some (r, σ') → MS D cy ad A s.heap z τ H locs → lv_has ls 9 [(0, va_rf (Option.map ad (some o0))), (2, va_rf (Option.map ad x2)), (3, .int x3), (6, .int x6), (7, .int x7)] → W p l e R s m args below meth c H locs 0 0 Q (F0 m 34 ls [])) (o0 : Nat) (x2 : Option Nat) (x3 : Int32) (x6 : Int32) (x7 : Int32)  (σ : Mem) (H : Heap) (locs : List Loc) (ls : Array Slot) (h : fX5_search_b116 rc34 o0 x2 x3 x6 x7 σ = some (r, σ')) (hM : MS D cy ad A s.heap z σ H locs) (hl : lv_has ls 9 [(0, va_rf (Option.map ad (some o0))), (2, va_rf (Option.map ad x2)), (3, .int x3), (6, .int x6), (7, .int x7)]) : W p l e R s m args below meth c H locs 0 0 Q (F0 m 116 ls []) := by
  have hx := hC.1
  have hb := hC.2.1
  unfold fX5_search_b116 at h
  obtain ⟨t1, e_t1, h⟩ := bd_elim h
  refine lv_iinc (v := t1) (lv' := [(7, .int t1), (0, va_rf (Option.map ad (some o0))), (2, va_rf (Option.map ad x2)), (3, .int x3), (6, .int x6)]) hx hb dX5_search_116 hl (k := 4) rfl (by rw [e_t1]; rfl) (by decide) (by first | rfl | simp [va_cat]) (fun ls hl => ?_)
  refine lv_goto (tgt := 34) hx hb dX5_search_119 (by decide) ?_
  exact Kc34 _ _ _ _ _ _ _ _ _ h hM (lv_sub hl [1, 2, 3, 4, 0] rfl)
def fX5_search_b88 (rc34 : Nat → (Option Nat) → Int32 → Int32 → Int32 → Mem → Option (Int64 × Mem)) : Nat → Nat → (Option Nat) → Int32 → Int32 → Int32 → Int32 → Mem → Option (Int64 × Mem)
  | 0, _, _, _, _, _, _, _ => none
  | n + 1, o0, x2, x3, x6, x7, x8, σ =>
    (fR σ 5 4 (some o0)).bind fun t1 =>
      (fI σ 3 1 t1).bind fun t2 =>
      if t2 ≤ x8 then fX5_search_b116 rc34 o0 x2 x3 x6 x7 σ
      else (kT σ 5 (some o0)).bind fun k4 =>
        (fX5_fillFreed k4 x8 x7 x6 σ).bind fun m5 =>
        bd (x8 + 1) fun t6 =>
        (fX5_search_b88 rc34 n) o0 x2 x3 x6 x7 t6 m5
set_option maxRecDepth 20000 in
theorem wX5_search_b88 {r : Int64} {σ' : Mem} (hC : CallFix p m c cX5_search 9 s args WALL RX5) (hG : GS D cy A s) (hR : 5 ≤ R.frames ∧ 180 ≤ R.locals) (Kr : KrL p l e R s m args below meth c cX5_search Q D cy ad A z r σ') {rc34 : Nat → (Option Nat) → Int32 → Int32 → Int32 → Mem → Option (Int64 × Mem)} (Kc34 : ∀ (o0 : Nat) (x2 : Option Nat) (x3 : Int32) (x6 : Int32) (x7 : Int32) (τ : Mem) (H : Heap) (locs : List Loc) (ls : Array Slot), rc34 o0 x2 x3 x6 x7 τ = some (r, σ') → MS D cy ad A s.heap z τ H locs → lv_has ls 9 [(0, va_rf (Option.map ad (some o0))), (2, va_rf (Option.map ad x2)), (3, .int x3), (6, .int x6), (7, .int x7)] → W p l e R s m args below meth c H locs 0 0 Q (F0 m 34 ls [])) : ∀ (n : Nat) (o0 : Nat) (x2 : Option Nat) (x3 : Int32) (x6 : Int32) (x7 : Int32) (x8 : Int32)  (σ : Mem) (H : Heap) (locs : List Loc) (ls : Array Slot), fX5_search_b88 rc34 n o0 x2 x3 x6 x7 x8 σ = some (r, σ') → MS D cy ad A s.heap z σ H locs → lv_has ls 9 [(0, va_rf (Option.map ad (some o0))), (2, va_rf (Option.map ad x2)), (3, .int x3), (6, .int x6), (7, .int x7), (8, .int x8)] → W p l e R s m args below meth c H locs 0 0 Q (F0 m 88 ls []) := by
  have hx := hC.1
  have hb := hC.2.1
  intro n
  induction n with
  | zero =>
    intro o0 x2 x3 x6 x7 x8 σ H locs ls h
    cases h
  | succ n ih =>
    intro o0 x2 x3 x6 x7 x8 σ H locs ls h hM hl
    rw [fX5_search_b88] at h
    refine lv_iload hx hb dX5_search_88 (lv_at hl 5 rfl) ?_
    refine lr_aload_n hx hb dX5_search_90 rfl (lv_at hl 0 rfl) ?_
    obtain ⟨t1, e_t1, h⟩ := bn h
    refine gf_X5_25 hC hG hM e_t1 dX5_search_91 ?_
    obtain ⟨t2, e_t2, h⟩ := bn h
    refine gf_X5_55 hC hG hM e_t2 dX5_search_94 ?_
    refine lv_icmp_ge (tgt := 116) hx hb dX5_search_97 (by decide) (fun c3 => ?_) (fun c3 => ?_)
    · rw [if_pos c3] at h
      exact wX5_search_b116 hC hG hR Kr Kc34 _ _ _ _ _ _ _ _ _ h hM (lv_sub hl [0, 1, 2, 3, 4] rfl)
    · rw [if_neg c3] at h
      refine lr_aload_n hx hb dX5_search_100 rfl (lv_at hl 0 rfl) ?_
      refine lv_iload hx hb dX5_search_101 (lv_at hl 5 rfl) ?_
      refine lv_iload hx hb dX5_search_103 (lv_at hl 4 rfl) ?_
      refine lv_iload hx hb dX5_search_105 (lv_at hl 3 rfl) ?_
      obtain ⟨k4, e_k4, h⟩ := bn h
      obtain ⟨m5, e_m5, h⟩ := bn h
      refine cs_X5_64 e_k4 hC hG hM (cX5_fillFreed_ok e_m5) ⟨by omega, by omega⟩ hl.1 (by first | exact Nat.le_of_ble_eq_true rfl | simp [va_cat, vcI, vcL, vcR]) dX5_search_107 (fun H locs hM => ?_)
      obtain ⟨t6, e_t6, h⟩ := bd_elim h
      refine lv_iinc (v := t6) (lv' := [(8, .int t6), (0, va_rf (Option.map ad (some o0))), (2, va_rf (Option.map ad x2)), (3, .int x3), (6, .int x6), (7, .int x7)]) hx hb dX5_search_110 hl (k := 5) rfl (by rw [e_t6]; rfl) (by decide) (by first | rfl | simp [va_cat]) (fun ls hl => ?_)
      refine lv_goto (tgt := 88) hx hb dX5_search_113 (by decide) ?_
      exact ih _ _ _ _ _ _ _ _ _ _ h hM (lv_sub hl [1, 2, 3, 4, 5, 0] rfl)
def fX5_search_b85 (rc34 : Nat → (Option Nat) → Int32 → Int32 → Int32 → Mem → Option (Int64 × Mem)) (o0 : Nat) (x2 : Option Nat) (x3 : Int32) (x6 : Int32) (x7 : Int32)  (σ : Mem) : Option (Int64 × Mem) :=
  fX5_search_b88 rc34 FU o0 x2 x3 x6 x7 0 σ
set_option maxRecDepth 20000 in
theorem wX5_search_b85 {r : Int64} {σ' : Mem} (hC : CallFix p m c cX5_search 9 s args WALL RX5) (hG : GS D cy A s) (hR : 5 ≤ R.frames ∧ 180 ≤ R.locals) (Kr : KrL p l e R s m args below meth c cX5_search Q D cy ad A z r σ') {rc34 : Nat → (Option Nat) → Int32 → Int32 → Int32 → Mem → Option (Int64 × Mem)} (Kc34 : ∀ (o0 : Nat) (x2 : Option Nat) (x3 : Int32) (x6 : Int32) (x7 : Int32) (τ : Mem) (H : Heap) (locs : List Loc) (ls : Array Slot), rc34 o0 x2 x3 x6 x7 τ = some (r, σ') → MS D cy ad A s.heap z τ H locs → lv_has ls 9 [(0, va_rf (Option.map ad (some o0))), (2, va_rf (Option.map ad x2)), (3, .int x3), (6, .int x6), (7, .int x7)] → W p l e R s m args below meth c H locs 0 0 Q (F0 m 34 ls [])) (o0 : Nat) (x2 : Option Nat) (x3 : Int32) (x6 : Int32) (x7 : Int32)  (σ : Mem) (H : Heap) (locs : List Loc) (ls : Array Slot) (h : fX5_search_b85 rc34 o0 x2 x3 x6 x7 σ = some (r, σ')) (hM : MS D cy ad A s.heap z σ H locs) (hl : lv_has ls 9 [(0, va_rf (Option.map ad (some o0))), (2, va_rf (Option.map ad x2)), (3, .int x3), (6, .int x6), (7, .int x7)]) : W p l e R s m args below meth c H locs 0 0 Q (F0 m 85 ls []) := by
  have hx := hC.1
  have hb := hC.2.1
  unfold fX5_search_b85 at h
  refine lv_iconst (v := 0) hx hb dX5_search_85 (by decide) ?_
  refine lv_istore (lv' := [(8, .int 0), (0, va_rf (Option.map ad (some o0))), (2, va_rf (Option.map ad x2)), (3, .int x3), (6, .int x6), (7, .int x7)]) hx hb dX5_search_86 hl (by decide) (by first | rfl | simp [va_cat]) (fun ls hl => ?_)
  exact wX5_search_b88 hC hG hR Kr Kc34 FU _ _ _ _ _ _ _ _ _ _ h hM (lv_sub hl [1, 2, 3, 4, 5, 0] rfl)
def fX5_search_b59 (rc34 : Nat → (Option Nat) → Int32 → Int32 → Int32 → Mem → Option (Int64 × Mem)) : Nat → Nat → (Option Nat) → Int32 → Int32 → Int32 → Int32 → Mem → Option (Int64 × Mem)
  | 0, _, _, _, _, _, _, _ => none
  | n + 1, o0, x2, x3, x6, x7, x8, σ =>
    (fR σ 5 4 (some o0)).bind fun t1 =>
      (fI σ 3 1 t1).bind fun t2 =>
      if t2 ≤ x8 then fX5_search_b85 rc34 o0 x2 x3 x6 x7 σ
      else (kT σ 5 (some o0)).bind fun k4 =>
        (fX5_fillBegun k4 x8 x7 σ).bind fun m5 =>
        bd (x8 + 1) fun t6 =>
        (fX5_search_b59 rc34 n) o0 x2 x3 x6 x7 t6 m5
set_option maxRecDepth 20000 in
theorem wX5_search_b59 {r : Int64} {σ' : Mem} (hC : CallFix p m c cX5_search 9 s args WALL RX5) (hG : GS D cy A s) (hR : 5 ≤ R.frames ∧ 180 ≤ R.locals) (Kr : KrL p l e R s m args below meth c cX5_search Q D cy ad A z r σ') {rc34 : Nat → (Option Nat) → Int32 → Int32 → Int32 → Mem → Option (Int64 × Mem)} (Kc34 : ∀ (o0 : Nat) (x2 : Option Nat) (x3 : Int32) (x6 : Int32) (x7 : Int32) (τ : Mem) (H : Heap) (locs : List Loc) (ls : Array Slot), rc34 o0 x2 x3 x6 x7 τ = some (r, σ') → MS D cy ad A s.heap z τ H locs → lv_has ls 9 [(0, va_rf (Option.map ad (some o0))), (2, va_rf (Option.map ad x2)), (3, .int x3), (6, .int x6), (7, .int x7)] → W p l e R s m args below meth c H locs 0 0 Q (F0 m 34 ls [])) : ∀ (n : Nat) (o0 : Nat) (x2 : Option Nat) (x3 : Int32) (x6 : Int32) (x7 : Int32) (x8 : Int32)  (σ : Mem) (H : Heap) (locs : List Loc) (ls : Array Slot), fX5_search_b59 rc34 n o0 x2 x3 x6 x7 x8 σ = some (r, σ') → MS D cy ad A s.heap z σ H locs → lv_has ls 9 [(0, va_rf (Option.map ad (some o0))), (2, va_rf (Option.map ad x2)), (3, .int x3), (6, .int x6), (7, .int x7), (8, .int x8)] → W p l e R s m args below meth c H locs 0 0 Q (F0 m 59 ls []) := by
  have hx := hC.1
  have hb := hC.2.1
  intro n
  induction n with
  | zero =>
    intro o0 x2 x3 x6 x7 x8 σ H locs ls h
    cases h
  | succ n ih =>
    intro o0 x2 x3 x6 x7 x8 σ H locs ls h hM hl
    rw [fX5_search_b59] at h
    refine lv_iload hx hb dX5_search_59 (lv_at hl 5 rfl) ?_
    refine lr_aload_n hx hb dX5_search_61 rfl (lv_at hl 0 rfl) ?_
    obtain ⟨t1, e_t1, h⟩ := bn h
    refine gf_X5_25 hC hG hM e_t1 dX5_search_62 ?_
    obtain ⟨t2, e_t2, h⟩ := bn h
    refine gf_X5_55 hC hG hM e_t2 dX5_search_65 ?_
    refine lv_icmp_ge (tgt := 85) hx hb dX5_search_68 (by decide) (fun c3 => ?_) (fun c3 => ?_)
    · rw [if_pos c3] at h
      exact wX5_search_b85 hC hG hR Kr Kc34 _ _ _ _ _ _ _ _ _ h hM (lv_sub hl [0, 1, 2, 3, 4] rfl)
    · rw [if_neg c3] at h
      refine lr_aload_n hx hb dX5_search_71 rfl (lv_at hl 0 rfl) ?_
      refine lv_iload hx hb dX5_search_72 (lv_at hl 5 rfl) ?_
      refine lv_iload hx hb dX5_search_74 (lv_at hl 4 rfl) ?_
      obtain ⟨k4, e_k4, h⟩ := bn h
      obtain ⟨m5, e_m5, h⟩ := bn h
      refine cs_X5_60 e_k4 hC hG hM (cX5_fillBegun_ok e_m5) ⟨by omega, by omega⟩ hl.1 (by first | exact Nat.le_of_ble_eq_true rfl | simp [va_cat, vcI, vcL, vcR]) dX5_search_76 (fun H locs hM => ?_)
      obtain ⟨t6, e_t6, h⟩ := bd_elim h
      refine lv_iinc (v := t6) (lv' := [(8, .int t6), (0, va_rf (Option.map ad (some o0))), (2, va_rf (Option.map ad x2)), (3, .int x3), (6, .int x6), (7, .int x7)]) hx hb dX5_search_79 hl (k := 5) rfl (by rw [e_t6]; rfl) (by decide) (by first | rfl | simp [va_cat]) (fun ls hl => ?_)
      refine lv_goto (tgt := 59) hx hb dX5_search_82 (by decide) ?_
      exact ih _ _ _ _ _ _ _ _ _ _ h hM (lv_sub hl [1, 2, 3, 4, 5, 0] rfl)
def fX5_search_b34  : Nat → Nat → (Option Nat) → Int32 → Int32 → Int32 → Mem → Option (Int64 × Mem)
  | 0, _, _, _, _, _, _ => none
  | n + 1, o0, x2, x3, x6, x7, σ =>
    (fI σ 5 5 (some o0)).bind fun t1 =>
      if x7 < t1 then fX5_search_b122 o0 σ
      else (kT σ 7 x2).bind fun k3 =>
        b2 (fX7_together k3 x3 x7 σ) fun t4 m5 =>
        (kT m5 5 (some o0)).bind fun k6 =>
        (fX5_fillMonthCents k6 t4 x7 m5).bind fun m7 =>
        fX5_search_b59 (fX5_search_b34 n) FU o0 x2 x3 x6 x7 0 m7
set_option maxRecDepth 20000 in
theorem wX5_search_b34 {r : Int64} {σ' : Mem} (hC : CallFix p m c cX5_search 9 s args WALL RX5) (hG : GS D cy A s) (hR : 5 ≤ R.frames ∧ 180 ≤ R.locals) (Kr : KrL p l e R s m args below meth c cX5_search Q D cy ad A z r σ')  : ∀ (n : Nat) (o0 : Nat) (x2 : Option Nat) (x3 : Int32) (x6 : Int32) (x7 : Int32)  (σ : Mem) (H : Heap) (locs : List Loc) (ls : Array Slot), fX5_search_b34 n o0 x2 x3 x6 x7 σ = some (r, σ') → MS D cy ad A s.heap z σ H locs → lv_has ls 9 [(0, va_rf (Option.map ad (some o0))), (2, va_rf (Option.map ad x2)), (3, .int x3), (6, .int x6), (7, .int x7)] → W p l e R s m args below meth c H locs 0 0 Q (F0 m 34 ls []) := by
  have hx := hC.1
  have hb := hC.2.1
  intro n
  induction n with
  | zero =>
    intro o0 x2 x3 x6 x7 σ H locs ls h
    cases h
  | succ n ih =>
    intro o0 x2 x3 x6 x7 σ H locs ls h hM hl
    rw [fX5_search_b34] at h
    refine lv_iload hx hb dX5_search_34 (lv_at hl 4 rfl) ?_
    refine lr_aload_n hx hb dX5_search_36 rfl (lv_at hl 0 rfl) ?_
    obtain ⟨t1, e_t1, h⟩ := bn h
    refine gf_X5_35 hC hG hM e_t1 dX5_search_37 ?_
    refine lv_icmp_lt (tgt := 122) hx hb dX5_search_40 (by decide) (fun c2 => ?_) (fun c2 => ?_)
    · rw [if_pos c2] at h
      exact wX5_search_b122 hC hG hR Kr _ _ _ _ _ h hM (lv_sub hl [0] rfl)
    · rw [if_neg c2] at h
      refine lr_aload_n hx hb dX5_search_43 rfl (lv_at hl 0 rfl) ?_
      refine lr_aload_n hx hb dX5_search_44 rfl (lv_at hl 1 rfl) ?_
      refine lv_iload_n hx hb dX5_search_45 rfl (lv_at hl 2 rfl) ?_
      refine lv_iload hx hb dX5_search_46 (lv_at hl 4 rfl) ?_
      obtain ⟨k3, e_k3, h⟩ := bn h
      obtain ⟨t4, m5, e_m5, h⟩ := b2_elim h
      refine cs_X5_45 e_k3 hC hG hM (cX7_together_ok e_m5) ⟨by omega, by omega⟩ hl.1 (by first | exact Nat.le_of_ble_eq_true rfl | simp [va_cat, vcI, vcL, vcR]) dX5_search_48 (fun H locs hM => ?_)
      refine lv_iload hx hb dX5_search_51 (lv_at hl 4 rfl) ?_
      obtain ⟨k6, e_k6, h⟩ := bn h
      obtain ⟨m7, e_m7, h⟩ := bn h
      refine cs_X5_51 e_k6 hC hG hM (cX5_fillMonthCents_ok e_m7) ⟨by omega, by omega⟩ hl.1 (by first | exact Nat.le_of_ble_eq_true rfl | simp [va_cat, vcI, vcL, vcR]) dX5_search_53 (fun H locs hM => ?_)
      refine lv_iconst (v := 0) hx hb dX5_search_56 (by decide) ?_
      refine lv_istore (lv' := [(8, .int 0), (0, va_rf (Option.map ad (some o0))), (2, va_rf (Option.map ad x2)), (3, .int x3), (6, .int x6), (7, .int x7)]) hx hb dX5_search_57 hl (by decide) (by first | rfl | simp [va_cat]) (fun ls hl => ?_)
      exact wX5_search_b59 hC hG hR Kr ih FU _ _ _ _ _ _ _ _ _ _ h hM (lv_sub hl [1, 2, 3, 4, 5, 0] rfl)
def fX5_search (o0 : Nat) (x1 : Option Nat) (x2 : Option Nat) (x3 : Int32) (x4 : Int32) (x5 : Int32) (x6 : Int32) (σ : Mem) : Option (Int64 × Mem) :=
  (pR σ 5 4 (some o0) x1).bind fun m1 =>
    (pI m1 5 5 (some o0) (if x4 < 0 then 0 else x4)).bind fun m2 =>
    (pI m2 5 6 (some o0) (if 24 < x5 then 24 else x5)).bind fun m3 =>
    (fI m3 5 6 (some o0)).bind fun t4 =>
    bd (t4 - 1) fun t5 =>
    fX5_search_b34 FU o0 x2 x3 x6 t5 m3
set_option maxRecDepth 20000 in
theorem wX5_search {r : Int64} {σ' : Mem} (hC : CallFix p m c cX5_search 9 s args WALL RX5) (hG : GS D cy A s) (hR : 5 ≤ R.frames ∧ 180 ≤ R.locals) (Kr : KrL p l e R s m args below meth c cX5_search Q D cy ad A z r σ') (o0 : Nat) (x1 : Option Nat) (x2 : Option Nat) (x3 : Int32) (x4 : Int32) (x5 : Int32) (x6 : Int32) (σ : Mem) (H : Heap) (locs : List Loc) (ls : Array Slot) (h : fX5_search o0 x1 x2 x3 x4 x5 x6 σ = some (r, σ')) (hM : MS D cy ad A s.heap z σ H locs) (hl : lv_has ls 9 [(0, va_rf (Option.map ad (some o0))), (1, va_rf (Option.map ad x1)), (2, va_rf (Option.map ad x2)), (3, .int x3), (4, .int x4), (5, .int x5), (6, .int x6)]) : W p l e R s m args below meth c H locs 0 0 Q (F0 m 0 ls []) := by
  have hx := hC.1
  have hb := hC.2.1
  unfold fX5_search at h
  refine lr_aload_n hx hb dX5_search_0 rfl (lv_at hl 0 rfl) ?_
  refine lr_aload_n hx hb dX5_search_1 rfl (lv_at hl 1 rfl) ?_
  obtain ⟨m1, e_m1, h⟩ := bn h
  refine pf_X5_25 hC hG hM e_m1 dX5_search_2 (fun H locs hM => ?_)
  refine lr_aload_n hx hb dX5_search_5 rfl (lv_at hl 0 rfl) ?_
  refine lv_iload hx hb dX5_search_6 (lv_at hl 4 rfl) ?_
  refine lv_iconst (v := 0) hx hb dX5_search_8 (by decide) ?_
  refine mm_X5_29 hC (by omega) (by simp [va_cat, vcI, vcL, vcR] <;> omega) dX5_search_9 hl.1 ?_
  obtain ⟨m2, e_m2, h⟩ := bn h
  refine pf_X5_35 hC hG hM e_m2 dX5_search_12 (fun H locs hM => ?_)
  refine lr_aload_n hx hb dX5_search_15 rfl (lv_at hl 0 rfl) ?_
  refine lv_iload hx hb dX5_search_16 (lv_at hl 5 rfl) ?_
  refine lv_bipush (v := 24) hx hb dX5_search_18 (by decide) ?_
  refine mm_X5_39 hC (by omega) (by simp [va_cat, vcI, vcL, vcR] <;> omega) dX5_search_20 hl.1 ?_
  obtain ⟨m3, e_m3, h⟩ := bn h
  refine pf_X5_42 hC hG hM e_m3 dX5_search_23 (fun H locs hM => ?_)
  refine lr_aload_n hx hb dX5_search_26 rfl (lv_at hl 0 rfl) ?_
  obtain ⟨t4, e_t4, h⟩ := bn h
  refine gf_X5_42 hC hG hM e_t4 dX5_search_27 ?_
  refine lv_iconst (v := 1) hx hb dX5_search_30 (by decide) ?_
  refine lv_isub hx hb dX5_search_31 ?_
  obtain ⟨t5, e_t5, h⟩ := bd_elim h
  refine lr_nmi e_t5 ?_
  refine lv_istore (lv' := [(7, .int t5), (0, va_rf (Option.map ad (some o0))), (1, va_rf (Option.map ad x1)), (2, va_rf (Option.map ad x2)), (3, .int x3), (4, .int x4), (5, .int x5), (6, .int x6)]) hx hb dX5_search_32 hl (by decide) (by first | rfl | simp [va_cat]) (fun ls hl => ?_)
  exact wX5_search_b34 hC hG hR Kr FU _ _ _ _ _ _ _ _ _ h hM (lv_sub hl [1, 3, 4, 7, 0] rfl)
theorem cX5_search_ok {l : Launch} {D : va_G} {cy : Nat → ClassId} {ad : Nat → Nat} {A : Nat → Prop} {z : Nat} {r : Int64} {σ' : Mem} {o0 : Nat} {x1 : Option Nat} {x2 : Option Nat} {x3 : Int32} {x4 : Int32} {x5 : Int32} {x6 : Int32} {σ : Mem} (h : fX5_search o0 x1 x2 x3 x4 x5 x6 σ = some (r, σ')) : CtL l yX5_search cX5_search 9 (some .long) 5 [.ref (ad o0), va_rf (Option.map ad x1), va_rf (Option.map ad x2), .int x3, .int x4, .int x5, .int x6] D cy ad A z σ r σ' :=
  enterL (own := RX5) (by decide) rfl (by simp [lg_sl, va_cat, vcI, vcL, vcR]) rfl (fun p e s m below meth c Q ls hC hG hM Kr hl => wX5_search hC hG ⟨Nat.le_refl _, Nat.le_refl _⟩ Kr _ _ _ _ _ _ _ _ _ _ _ h hM (by simp [lv_args, va_cat, vcI, vcL, vcR] at hl; exact hl))
/-! X9_best (III)J -/
def fX9_best_b101  (o0 : Nat) (x4 : Int32)  (σ : Mem) : Option (Int64 × Mem) :=
  (fR σ 9 29 (some o0)).bind fun t1 =>
    (aJ σ 12 t1 x4).bind fun t2 =>
    some (t2, σ)
set_option maxRecDepth 20000 in
theorem wX9_best_b101 {r : Int64} {σ' : Mem} (hC : CallFix p m c cX9_best 6 s args WALL RX9) (hG : GS D cy A s) (hR : 5 ≤ R.frames ∧ 180 ≤ R.locals) (Kr : KrL p l e R s m args below meth c cX9_best Q D cy ad A z r σ')  (o0 : Nat) (x4 : Int32)  (σ : Mem) (H : Heap) (locs : List Loc) (ls : Array Slot) (h : fX9_best_b101 o0 x4 σ = some (r, σ')) (hM : MS D cy ad A s.heap z σ H locs) (hl : lv_has ls 6 [(0, va_rf (Option.map ad (some o0))), (4, .int x4)]) : W p l e R s m args below meth c H locs 0 0 Q (F0 m 101 ls []) := by
  have hx := hC.1
  have hb := hC.2.1
  unfold fX9_best_b101 at h
  refine lr_aload_n hx hb dX9_best_101 rfl (lv_at hl 0 rfl) ?_
  obtain ⟨t1, e_t1, h⟩ := bn h
  refine gf_X9_54 hC hG hM e_t1 dX9_best_102 ?_
  refine lv_iload hx hb dX9_best_105 (lv_at hl 1 rfl) ?_
  obtain ⟨t2, e_t2, h⟩ := bn h
  refine g_lald hx hb hG hM e_t2 dX9_best_107 ?_
  obtain ⟨rfl, rfl⟩ := Prod.mk.inj (Option.some.inj h)
  exact Kr _ _ _ _ dX9_best_108 hM
def fX9_best_b67  : Nat → Nat → Int32 → Int32 → Int32 → Int32 → Mem → Option (Int64 × Mem)
  | 0, _, _, _, _, _, _ => none
  | n + 1, o0, x2, x3, x4, x5, σ =>
    if (x3 - x2) ≤ x5 then fX9_best_b101 o0 x4 σ
      else (fR σ 9 33 (some o0)).bind fun t2 =>
        (fR σ 9 31 (some o0)).bind fun t3 =>
        (aI σ 11 t3 ((24 * x4) + x5)).bind fun t4 =>
        (wI σ 11 t2 x5 t4).bind fun m5 =>
        bd (x5 + 1) fun t6 =>
        (fX9_best_b67 n) o0 x2 x3 x4 t6 m5
set_option maxRecDepth 20000 in
theorem wX9_best_b67 {r : Int64} {σ' : Mem} (hC : CallFix p m c cX9_best 6 s args WALL RX9) (hG : GS D cy A s) (hR : 5 ≤ R.frames ∧ 180 ≤ R.locals) (Kr : KrL p l e R s m args below meth c cX9_best Q D cy ad A z r σ')  : ∀ (n : Nat) (o0 : Nat) (x2 : Int32) (x3 : Int32) (x4 : Int32) (x5 : Int32)  (σ : Mem) (H : Heap) (locs : List Loc) (ls : Array Slot), fX9_best_b67 n o0 x2 x3 x4 x5 σ = some (r, σ') → MS D cy ad A s.heap z σ H locs → lv_has ls 6 [(0, va_rf (Option.map ad (some o0))), (2, .int x2), (3, .int x3), (4, .int x4), (5, .int x5)] → W p l e R s m args below meth c H locs 0 0 Q (F0 m 67 ls []) := by
  have hx := hC.1
  have hb := hC.2.1
  intro n
  induction n with
  | zero =>
    intro o0 x2 x3 x4 x5 σ H locs ls h
    cases h
  | succ n ih =>
    intro o0 x2 x3 x4 x5 σ H locs ls h hM hl
    rw [fX9_best_b67] at h
    refine lv_iload hx hb dX9_best_67 (lv_at hl 4 rfl) ?_
    refine lv_iload_n hx hb dX9_best_69 rfl (lv_at hl 2 rfl) ?_
    refine lv_iload_n hx hb dX9_best_70 rfl (lv_at hl 1 rfl) ?_
    refine lv_isub hx hb dX9_best_71 ?_
    refine lv_icmp_ge (tgt := 101) hx hb dX9_best_72 (by decide) (fun c1 => ?_) (fun c1 => ?_)
    · rw [if_pos c1] at h
      exact wX9_best_b101 hC hG hR Kr _ _ _ _ _ _ h hM (lv_sub hl [0, 3] rfl)
    · rw [if_neg c1] at h
      refine lr_aload_n hx hb dX9_best_75 rfl (lv_at hl 0 rfl) ?_
      obtain ⟨t2, e_t2, h⟩ := bn h
      refine gf_X9_66 hC hG hM e_t2 dX9_best_76 ?_
      refine lv_iload hx hb dX9_best_79 (lv_at hl 4 rfl) ?_
      refine lr_aload_n hx hb dX9_best_81 rfl (lv_at hl 0 rfl) ?_
      obtain ⟨t3, e_t3, h⟩ := bn h
      refine gf_X9_60 hC hG hM e_t3 dX9_best_82 ?_
      refine lv_bipush (v := 24) hx hb dX9_best_85 (by decide) ?_
      refine lv_iload hx hb dX9_best_87 (lv_at hl 3 rfl) ?_
      refine lv_imul hx hb dX9_best_89 ?_
      refine lv_iload hx hb dX9_best_90 (lv_at hl 4 rfl) ?_
      refine lv_iadd hx hb dX9_best_92 ?_
      obtain ⟨t4, e_t4, h⟩ := bn h
      refine g_iald hx hb hG hM e_t4 dX9_best_93 ?_
      obtain ⟨m5, e_m5, h⟩ := bn h
      refine g_iast hx hb hG hM e_m5 dX9_best_94 (fun H locs hM => ?_)
      obtain ⟨t6, e_t6, h⟩ := bd_elim h
      refine lv_iinc (v := t6) (lv' := [(5, .int t6), (0, va_rf (Option.map ad (some o0))), (2, .int x2), (3, .int x3), (4, .int x4)]) hx hb dX9_best_95 hl (k := 4) rfl (by rw [e_t6]; rfl) (by decide) (by first | rfl | simp [va_cat]) (fun ls hl => ?_)
      refine lv_goto (tgt := 67) hx hb dX9_best_98 (by decide) ?_
      exact ih _ _ _ _ _ _ _ _ _ h hM (lv_sub hl [1, 2, 3, 4, 0] rfl)
def fX9_best_b31    (σ : Mem) : Option (Int64 × Mem) :=
  some ((-1), σ)
set_option maxRecDepth 20000 in
theorem wX9_best_b31 {r : Int64} {σ' : Mem} (hC : CallFix p m c cX9_best 6 s args WALL RX9) (hG : GS D cy A s) (hR : 5 ≤ R.frames ∧ 180 ≤ R.locals) (Kr : KrL p l e R s m args below meth c cX9_best Q D cy ad A z r σ')    (σ : Mem) (H : Heap) (locs : List Loc) (ls : Array Slot) (h : fX9_best_b31  σ = some (r, σ')) (hM : MS D cy ad A s.heap z σ H locs) (hl : lv_has ls 6 []) : W p l e R s m args below meth c H locs 0 0 Q (F0 m 31 ls []) := by
  have hx := hC.1
  have hb := hC.2.1
  unfold fX9_best_b31 at h
  refine lv_ldc2 (v := (-1)) hx hb hC.2.2.2.1 (hC.2.2.2.2 _ wk_X9_273) dX9_best_31 ?_
  obtain ⟨rfl, rfl⟩ := Prod.mk.inj (Option.some.inj h)
  exact Kr _ _ _ _ dX9_best_34 hM
def fX9_best (o0 : Nat) (x1 : Int32) (x2 : Int32) (x3 : Int32) (σ : Mem) : Option (Int64 × Mem) :=
  (pI σ 9 0 (some o0) 0).bind fun m1 =>
    if x1 < 1 then fX9_best_b31 m1
    else if 15 < x1 then fX9_best_b31 m1
      else if x2 < 0 then fX9_best_b31 m1
        else if x3 ≤ x2 then fX9_best_b31 m1
          else if x3 ≤ 24 then (kT m1 9 (some o0)).bind fun k7 =>
              b2 (fX9_find k7 x1 x2 x3 m1) fun t8 m9 =>
              if t8 = (-1) then some ((-1), m9)
              else (pI m9 9 34 (some o0) x2).bind fun m11 =>
                (pI m11 9 35 (some o0) x3).bind fun m12 =>
                fX9_best_b67 FU o0 x2 x3 t8 0 m12
            else fX9_best_b31 m1
set_option maxRecDepth 20000 in
theorem wX9_best {r : Int64} {σ' : Mem} (hC : CallFix p m c cX9_best 6 s args WALL RX9) (hG : GS D cy A s) (hR : 5 ≤ R.frames ∧ 180 ≤ R.locals) (Kr : KrL p l e R s m args below meth c cX9_best Q D cy ad A z r σ') (o0 : Nat) (x1 : Int32) (x2 : Int32) (x3 : Int32) (σ : Mem) (H : Heap) (locs : List Loc) (ls : Array Slot) (h : fX9_best o0 x1 x2 x3 σ = some (r, σ')) (hM : MS D cy ad A s.heap z σ H locs) (hl : lv_has ls 6 [(0, va_rf (Option.map ad (some o0))), (1, .int x1), (2, .int x2), (3, .int x3)]) : W p l e R s m args below meth c H locs 0 0 Q (F0 m 0 ls []) := by
  have hx := hC.1
  have hb := hC.2.1
  unfold fX9_best at h
  refine lr_aload_n hx hb dX9_best_0 rfl (lv_at hl 0 rfl) ?_
  refine lv_iconst (v := 0) hx hb dX9_best_1 (by decide) ?_
  obtain ⟨m1, e_m1, h⟩ := bn h
  refine pf_X9_87 hC hG hM e_m1 dX9_best_2 (fun H locs hM => ?_)
  refine lv_iload_n hx hb dX9_best_5 rfl (lv_at hl 1 rfl) ?_
  refine lv_iconst (v := 1) hx hb dX9_best_6 (by decide) ?_
  refine lv_icmp_lt (tgt := 31) hx hb dX9_best_7 (by decide) (fun c2 => ?_) (fun c2 => ?_)
  · rw [if_pos c2] at h
    exact wX9_best_b31 hC hG hR Kr _ _ _ _ h hM (lv_sub hl [] rfl)
  · rw [if_neg c2] at h
    refine lv_iload_n hx hb dX9_best_10 rfl (lv_at hl 1 rfl) ?_
    refine lv_bipush (v := 15) hx hb dX9_best_11 (by decide) ?_
    refine lv_icmp_gt (tgt := 31) hx hb dX9_best_13 (by decide) (fun c3 => ?_) (fun c3 => ?_)
    · rw [if_pos c3] at h
      exact wX9_best_b31 hC hG hR Kr _ _ _ _ h hM (lv_sub hl [] rfl)
    · rw [if_neg c3] at h
      refine lv_iload_n hx hb dX9_best_16 rfl (lv_at hl 2 rfl) ?_
      refine lv_if_lt (tgt := 31) hx hb dX9_best_17 (by decide) (fun c4 => ?_) (fun c4 => ?_)
      · rw [if_pos c4] at h
        exact wX9_best_b31 hC hG hR Kr _ _ _ _ h hM (lv_sub hl [] rfl)
      · rw [if_neg c4] at h
        refine lv_iload_n hx hb dX9_best_20 rfl (lv_at hl 2 rfl) ?_
        refine lv_iload_n hx hb dX9_best_21 rfl (lv_at hl 3 rfl) ?_
        refine lv_icmp_ge (tgt := 31) hx hb dX9_best_22 (by decide) (fun c5 => ?_) (fun c5 => ?_)
        · rw [if_pos c5] at h
          exact wX9_best_b31 hC hG hR Kr _ _ _ _ h hM (lv_sub hl [] rfl)
        · rw [if_neg c5] at h
          refine lv_iload_n hx hb dX9_best_25 rfl (lv_at hl 3 rfl) ?_
          refine lv_bipush (v := 24) hx hb dX9_best_26 (by decide) ?_
          refine lv_icmp_le (tgt := 35) hx hb dX9_best_28 (by decide) (fun c6 => ?_) (fun c6 => ?_)
          · rw [if_pos c6] at h
            refine lr_aload_n hx hb dX9_best_35 rfl (lv_at hl 0 rfl) ?_
            refine lv_iload_n hx hb dX9_best_36 rfl (lv_at hl 1 rfl) ?_
            refine lv_iload_n hx hb dX9_best_37 rfl (lv_at hl 2 rfl) ?_
            refine lv_iload_n hx hb dX9_best_38 rfl (lv_at hl 3 rfl) ?_
            obtain ⟨k7, e_k7, h⟩ := bn h
            obtain ⟨t8, m9, e_m9, h⟩ := b2_elim h
            refine cs_X9_275 e_k7 hC hG hM (cX9_find_ok e_m9) ⟨by omega, by omega⟩ hl.1 (by first | exact Nat.le_of_ble_eq_true rfl | simp [va_cat, vcI, vcL, vcR]) dX9_best_39 (fun H locs hM => ?_)
            refine lv_istore (lv' := [(4, .int t8), (0, va_rf (Option.map ad (some o0))), (1, .int x1), (2, .int x2), (3, .int x3)]) hx hb dX9_best_42 hl (by decide) (by first | rfl | simp [va_cat]) (fun ls hl => ?_)
            refine lv_iload hx hb dX9_best_44 (lv_at hl 0 rfl) ?_
            refine lv_iconst (v := (-1)) hx hb dX9_best_46 (by decide) ?_
            refine lv_icmp_ne (tgt := 54) hx hb dX9_best_47 (by decide) (fun c10 => ?_) (fun c10 => ?_)
            · rw [if_neg c10] at h
              refine lr_aload_n hx hb dX9_best_54 rfl (lv_at hl 1 rfl) ?_
              refine lv_iload_n hx hb dX9_best_55 rfl (lv_at hl 3 rfl) ?_
              obtain ⟨m11, e_m11, h⟩ := bn h
              refine pf_X9_208 hC hG hM e_m11 dX9_best_56 (fun H locs hM => ?_)
              refine lr_aload_n hx hb dX9_best_59 rfl (lv_at hl 1 rfl) ?_
              refine lv_iload_n hx hb dX9_best_60 rfl (lv_at hl 4 rfl) ?_
              obtain ⟨m12, e_m12, h⟩ := bn h
              refine pf_X9_211 hC hG hM e_m12 dX9_best_61 (fun H locs hM => ?_)
              refine lv_iconst (v := 0) hx hb dX9_best_64 (by decide) ?_
              refine lv_istore (lv' := [(5, .int 0), (4, .int t8), (0, va_rf (Option.map ad (some o0))), (1, .int x1), (2, .int x2), (3, .int x3)]) hx hb dX9_best_65 hl (by decide) (by first | rfl | simp [va_cat]) (fun ls hl => ?_)
              exact wX9_best_b67 hC hG hR Kr FU _ _ _ _ _ _ _ _ _ h hM (lv_sub hl [2, 4, 5, 1, 0] rfl)
            · rw [if_pos c10] at h
              refine lv_ldc2 (v := (-1)) hx hb hC.2.2.2.1 (hC.2.2.2.2 _ wk_X9_273) dX9_best_50 ?_
              obtain ⟨rfl, rfl⟩ := Prod.mk.inj (Option.some.inj h)
              exact Kr _ _ _ _ dX9_best_53 hM
          · rw [if_neg c6] at h
            exact wX9_best_b31 hC hG hR Kr _ _ _ _ h hM (lv_sub hl [] rfl)
theorem cX9_best_ok {l : Launch} {D : va_G} {cy : Nat → ClassId} {ad : Nat → Nat} {A : Nat → Prop} {z : Nat} {r : Int64} {σ' : Mem} {o0 : Nat} {x1 : Int32} {x2 : Int32} {x3 : Int32} {σ : Mem} (h : fX9_best o0 x1 x2 x3 σ = some (r, σ')) : CtL l yX9_best cX9_best 6 (some .long) 5 [.ref (ad o0), .int x1, .int x2, .int x3] D cy ad A z σ r σ' :=
  enterL (own := RX9) (by decide) rfl (Nat.le_of_ble_eq_true rfl) rfl (fun p e s m below meth c Q ls hC hG hM Kr hl => wX9_best hC hG ⟨Nat.le_refl _, Nat.le_refl _⟩ Kr _ _ _ _ _ _ _ _ h hM hl)
/-! X9_bills ()J -/
def fX9_bills_b260  (o0 : Nat)  (σ : Mem) : Option (Int64 × Mem) :=
  (fR σ 9 37 (some o0)).bind fun t1 =>
    (aJ σ 12 t1 15).bind fun t2 =>
    some (t2, σ)
set_option maxRecDepth 20000 in
theorem wX9_bills_b260 {r : Int64} {σ' : Mem} (hC : CallFix p m c cX9_bills 5 s args WALL RX9) (hG : GS D cy A s) (hR : 5 ≤ R.frames ∧ 180 ≤ R.locals) (Kr : KrL p l e R s m args below meth c cX9_bills Q D cy ad A z r σ')  (o0 : Nat)  (σ : Mem) (H : Heap) (locs : List Loc) (ls : Array Slot) (h : fX9_bills_b260 o0 σ = some (r, σ')) (hM : MS D cy ad A s.heap z σ H locs) (hl : lv_has ls 5 [(0, va_rf (Option.map ad (some o0)))]) : W p l e R s m args below meth c H locs 0 0 Q (F0 m 260 ls []) := by
  have hx := hC.1
  have hb := hC.2.1
  unfold fX9_bills_b260 at h
  refine lr_aload_n hx hb dX9_bills_260 rfl (lv_at hl 0 rfl) ?_
  obtain ⟨t1, e_t1, h⟩ := bn h
  refine gf_X9_72 hC hG hM e_t1 dX9_bills_261 ?_
  refine lv_bipush (v := 15) hx hb dX9_bills_264 (by decide) ?_
  obtain ⟨t2, e_t2, h⟩ := bn h
  refine g_lald hx hb hG hM e_t2 dX9_bills_266 ?_
  obtain ⟨rfl, rfl⟩ := Prod.mk.inj (Option.some.inj h)
  exact Kr _ _ _ _ dX9_bills_267 hM
def fX9_bills_b251 (rc211 : Nat → Int32 → Mem → Option (Int64 × Mem)) (o0 : Nat) (x1 : Int32) (x2 : Int32)  (σ : Mem) : Option (Int64 × Mem) :=
  bd (x1 &&& (x2 ^^^ (-1))) fun t1 =>
    rc211 o0 t1 σ
set_option maxRecDepth 20000 in
theorem wX9_bills_b251 {r : Int64} {σ' : Mem} (hC : CallFix p m c cX9_bills 5 s args WALL RX9) (hG : GS D cy A s) (hR : 5 ≤ R.frames ∧ 180 ≤ R.locals) (Kr : KrL p l e R s m args below meth c cX9_bills Q D cy ad A z r σ') {rc211 : Nat → Int32 → Mem → Option (Int64 × Mem)} (Kc211 : ∀ (o0 : Nat) (x1 : Int32) (τ : Mem) (H : Heap) (locs : List Loc) (ls : Array Slot), rc211 o0 x1 τ = some (r, σ') → MS D cy ad A s.heap z τ H locs → lv_has ls 5 [(0, va_rf (Option.map ad (some o0))), (1, .int x1)] → W p l e R s m args below meth c H locs 0 0 Q (F0 m 211 ls [])) (o0 : Nat) (x1 : Int32) (x2 : Int32)  (σ : Mem) (H : Heap) (locs : List Loc) (ls : Array Slot) (h : fX9_bills_b251 rc211 o0 x1 x2 σ = some (r, σ')) (hM : MS D cy ad A s.heap z σ H locs) (hl : lv_has ls 5 [(0, va_rf (Option.map ad (some o0))), (1, .int x1), (2, .int x2)]) : W p l e R s m args below meth c H locs 0 0 Q (F0 m 251 ls []) := by
  have hx := hC.1
  have hb := hC.2.1
  unfold fX9_bills_b251 at h
  refine lv_iload_n hx hb dX9_bills_251 rfl (lv_at hl 1 rfl) ?_
  refine lv_iload_n hx hb dX9_bills_252 rfl (lv_at hl 2 rfl) ?_
  refine lv_iconst (v := (-1)) hx hb dX9_bills_253 (by decide) ?_
  refine lv_ixor hx hb dX9_bills_254 ?_
  refine lv_iand hx hb dX9_bills_255 ?_
  obtain ⟨t1, e_t1, h⟩ := bd_elim h
  refine lr_nmi e_t1 ?_
  refine lv_istore_n (lv' := [(1, .int t1), (0, va_rf (Option.map ad (some o0))), (2, .int x2)]) hx hb dX9_bills_256 rfl hl (by decide) (by first | rfl | simp [va_cat]) (fun ls hl => ?_)
  refine lv_goto (tgt := 211) hx hb dX9_bills_257 (by decide) ?_
  exact Kc211 _ _ _ _ _ _ h hM (lv_sub hl [1, 0] rfl)
def fX9_bills_b245 (rc211 : Nat → Int32 → Mem → Option (Int64 × Mem)) (rc224 : Nat → Int32 → Int32 → Int32 → Mem → Option (Int64 × Mem)) (o0 : Nat) (x1 : Int32) (x2 : Int32) (x3 : Int32)  (σ : Mem) : Option (Int64 × Mem) :=
  bd (x3 + 1) fun t1 =>
    rc224 o0 x1 x2 t1 σ
set_option maxRecDepth 20000 in
theorem wX9_bills_b245 {r : Int64} {σ' : Mem} (hC : CallFix p m c cX9_bills 5 s args WALL RX9) (hG : GS D cy A s) (hR : 5 ≤ R.frames ∧ 180 ≤ R.locals) (Kr : KrL p l e R s m args below meth c cX9_bills Q D cy ad A z r σ') {rc211 : Nat → Int32 → Mem → Option (Int64 × Mem)} (Kc211 : ∀ (o0 : Nat) (x1 : Int32) (τ : Mem) (H : Heap) (locs : List Loc) (ls : Array Slot), rc211 o0 x1 τ = some (r, σ') → MS D cy ad A s.heap z τ H locs → lv_has ls 5 [(0, va_rf (Option.map ad (some o0))), (1, .int x1)] → W p l e R s m args below meth c H locs 0 0 Q (F0 m 211 ls [])) {rc224 : Nat → Int32 → Int32 → Int32 → Mem → Option (Int64 × Mem)} (Kc224 : ∀ (o0 : Nat) (x1 : Int32) (x2 : Int32) (x3 : Int32) (τ : Mem) (H : Heap) (locs : List Loc) (ls : Array Slot), rc224 o0 x1 x2 x3 τ = some (r, σ') → MS D cy ad A s.heap z τ H locs → lv_has ls 5 [(0, va_rf (Option.map ad (some o0))), (1, .int x1), (2, .int x2), (3, .int x3)] → W p l e R s m args below meth c H locs 0 0 Q (F0 m 224 ls [])) (o0 : Nat) (x1 : Int32) (x2 : Int32) (x3 : Int32)  (σ : Mem) (H : Heap) (locs : List Loc) (ls : Array Slot) (h : fX9_bills_b245 rc211 rc224 o0 x1 x2 x3 σ = some (r, σ')) (hM : MS D cy ad A s.heap z σ H locs) (hl : lv_has ls 5 [(0, va_rf (Option.map ad (some o0))), (1, .int x1), (2, .int x2), (3, .int x3)]) : W p l e R s m args below meth c H locs 0 0 Q (F0 m 245 ls []) := by
  have hx := hC.1
  have hb := hC.2.1
  unfold fX9_bills_b245 at h
  obtain ⟨t1, e_t1, h⟩ := bd_elim h
  refine lv_iinc (v := t1) (lv' := [(3, .int t1), (0, va_rf (Option.map ad (some o0))), (1, .int x1), (2, .int x2)]) hx hb dX9_bills_245 hl (k := 3) rfl (by rw [e_t1]; rfl) (by decide) (by first | rfl | simp [va_cat]) (fun ls hl => ?_)
  refine lv_goto (tgt := 224) hx hb dX9_bills_248 (by decide) ?_
  exact Kc224 _ _ _ _ _ _ _ _ h hM (lv_sub hl [1, 2, 3, 0] rfl)
def fX9_bills_b224 (rc211 : Nat → Int32 → Mem → Option (Int64 × Mem)) : Nat → Nat → Int32 → Int32 → Int32 → Mem → Option (Int64 × Mem)
  | 0, _, _, _, _, _ => none
  | n + 1, o0, x1, x2, x3, σ =>
    if 4 ≤ x3 then fX9_bills_b251 rc211 o0 x1 x2 σ
      else if ((x2 >>> (x3 &&& 31)) &&& 1) = 1 then (fR σ 9 39 (some o0)).bind fun t3 =>
          (wI σ 11 t3 x3 x2).bind fun m4 =>
          fX9_bills_b245 rc211 (fX9_bills_b224 rc211 n) o0 x1 x2 x3 m4
        else fX9_bills_b245 rc211 (fX9_bills_b224 rc211 n) o0 x1 x2 x3 σ
set_option maxRecDepth 20000 in
theorem wX9_bills_b224 {r : Int64} {σ' : Mem} (hC : CallFix p m c cX9_bills 5 s args WALL RX9) (hG : GS D cy A s) (hR : 5 ≤ R.frames ∧ 180 ≤ R.locals) (Kr : KrL p l e R s m args below meth c cX9_bills Q D cy ad A z r σ') {rc211 : Nat → Int32 → Mem → Option (Int64 × Mem)} (Kc211 : ∀ (o0 : Nat) (x1 : Int32) (τ : Mem) (H : Heap) (locs : List Loc) (ls : Array Slot), rc211 o0 x1 τ = some (r, σ') → MS D cy ad A s.heap z τ H locs → lv_has ls 5 [(0, va_rf (Option.map ad (some o0))), (1, .int x1)] → W p l e R s m args below meth c H locs 0 0 Q (F0 m 211 ls [])) : ∀ (n : Nat) (o0 : Nat) (x1 : Int32) (x2 : Int32) (x3 : Int32)  (σ : Mem) (H : Heap) (locs : List Loc) (ls : Array Slot), fX9_bills_b224 rc211 n o0 x1 x2 x3 σ = some (r, σ') → MS D cy ad A s.heap z σ H locs → lv_has ls 5 [(0, va_rf (Option.map ad (some o0))), (1, .int x1), (2, .int x2), (3, .int x3)] → W p l e R s m args below meth c H locs 0 0 Q (F0 m 224 ls []) := by
  have hx := hC.1
  have hb := hC.2.1
  intro n
  induction n with
  | zero =>
    intro o0 x1 x2 x3 σ H locs ls h
    cases h
  | succ n ih =>
    intro o0 x1 x2 x3 σ H locs ls h hM hl
    rw [fX9_bills_b224] at h
    refine lv_iload_n hx hb dX9_bills_224 rfl (lv_at hl 3 rfl) ?_
    refine lv_iconst (v := 4) hx hb dX9_bills_225 (by decide) ?_
    refine lv_icmp_ge (tgt := 251) hx hb dX9_bills_226 (by decide) (fun c1 => ?_) (fun c1 => ?_)
    · rw [if_pos c1] at h
      exact wX9_bills_b251 hC hG hR Kr Kc211 _ _ _ _ _ _ _ h hM (lv_sub hl [0, 1, 2] rfl)
    · rw [if_neg c1] at h
      refine lv_iload_n hx hb dX9_bills_229 rfl (lv_at hl 2 rfl) ?_
      refine lv_iload_n hx hb dX9_bills_230 rfl (lv_at hl 3 rfl) ?_
      refine lv_ishr hx hb dX9_bills_231 ?_
      refine lv_iconst (v := 1) hx hb dX9_bills_232 (by decide) ?_
      refine lv_iand hx hb dX9_bills_233 ?_
      refine lv_iconst (v := 1) hx hb dX9_bills_234 (by decide) ?_
      refine lv_icmp_ne (tgt := 245) hx hb dX9_bills_235 (by decide) (fun c2 => ?_) (fun c2 => ?_)
      · rw [if_neg c2] at h
        exact wX9_bills_b245 hC hG hR Kr Kc211 ih _ _ _ _ _ _ _ _ h hM (lv_sub hl [0, 1, 2, 3] rfl)
      · rw [if_pos c2] at h
        refine lr_aload_n hx hb dX9_bills_238 rfl (lv_at hl 0 rfl) ?_
        obtain ⟨t3, e_t3, h⟩ := bn h
        refine gf_X9_78 hC hG hM e_t3 dX9_bills_239 ?_
        refine lv_iload_n hx hb dX9_bills_242 rfl (lv_at hl 3 rfl) ?_
        refine lv_iload_n hx hb dX9_bills_243 rfl (lv_at hl 2 rfl) ?_
        obtain ⟨m4, e_m4, h⟩ := bn h
        refine g_iast hx hb hG hM e_m4 dX9_bills_244 (fun H locs hM => ?_)
        exact wX9_bills_b245 hC hG hR Kr Kc211 ih _ _ _ _ _ _ _ _ h hM (lv_sub hl [0, 1, 2, 3] rfl)
def fX9_bills_b211  : Nat → Nat → Int32 → Mem → Option (Int64 × Mem)
  | 0, _, _, _ => none
  | n + 1, o0, x1, σ =>
    if x1 ≤ 0 then fX9_bills_b260 o0 σ
      else (fR σ 9 38 (some o0)).bind fun t2 =>
        (aI σ 11 t2 x1).bind fun t3 =>
        fX9_bills_b224 (fX9_bills_b211 n) FU o0 x1 t3 0 σ
set_option maxRecDepth 20000 in
theorem wX9_bills_b211 {r : Int64} {σ' : Mem} (hC : CallFix p m c cX9_bills 5 s args WALL RX9) (hG : GS D cy A s) (hR : 5 ≤ R.frames ∧ 180 ≤ R.locals) (Kr : KrL p l e R s m args below meth c cX9_bills Q D cy ad A z r σ')  : ∀ (n : Nat) (o0 : Nat) (x1 : Int32)  (σ : Mem) (H : Heap) (locs : List Loc) (ls : Array Slot), fX9_bills_b211 n o0 x1 σ = some (r, σ') → MS D cy ad A s.heap z σ H locs → lv_has ls 5 [(0, va_rf (Option.map ad (some o0))), (1, .int x1)] → W p l e R s m args below meth c H locs 0 0 Q (F0 m 211 ls []) := by
  have hx := hC.1
  have hb := hC.2.1
  intro n
  induction n with
  | zero =>
    intro o0 x1 σ H locs ls h
    cases h
  | succ n ih =>
    intro o0 x1 σ H locs ls h hM hl
    rw [fX9_bills_b211] at h
    refine lv_iload_n hx hb dX9_bills_211 rfl (lv_at hl 1 rfl) ?_
    refine lv_if_le (tgt := 260) hx hb dX9_bills_212 (by decide) (fun c1 => ?_) (fun c1 => ?_)
    · rw [if_pos c1] at h
      exact wX9_bills_b260 hC hG hR Kr _ _ _ _ _ h hM (lv_sub hl [0] rfl)
    · rw [if_neg c1] at h
      refine lr_aload_n hx hb dX9_bills_215 rfl (lv_at hl 0 rfl) ?_
      obtain ⟨t2, e_t2, h⟩ := bn h
      refine gf_X9_75 hC hG hM e_t2 dX9_bills_216 ?_
      refine lv_iload_n hx hb dX9_bills_219 rfl (lv_at hl 1 rfl) ?_
      obtain ⟨t3, e_t3, h⟩ := bn h
      refine g_iald hx hb hG hM e_t3 dX9_bills_220 ?_
      refine lv_istore_n (lv' := [(2, .int t3), (0, va_rf (Option.map ad (some o0))), (1, .int x1)]) hx hb dX9_bills_221 rfl hl (by decide) (by first | rfl | simp [va_cat]) (fun ls hl => ?_)
      refine lv_iconst (v := 0) hx hb dX9_bills_222 (by decide) ?_
      refine lv_istore_n (lv' := [(3, .int 0), (2, .int t3), (0, va_rf (Option.map ad (some o0))), (1, .int x1)]) hx hb dX9_bills_223 rfl hl (by decide) (by first | rfl | simp [va_cat]) (fun ls hl => ?_)
      exact wX9_bills_b224 hC hG hR Kr ih FU _ _ _ _ _ _ _ _ h hM (lv_sub hl [2, 3, 1, 0] rfl)
def fX9_bills_b190  (o0 : Nat)  (σ : Mem) : Option (Int64 × Mem) :=
  (fR σ 9 37 (some o0)).bind fun t1 =>
    (aJ σ 12 t1 15).bind fun t2 =>
    if t2 = 1000000000000000 then some ((-1), σ)
    else fX9_bills_b211 FU o0 15 σ
set_option maxRecDepth 20000 in
theorem wX9_bills_b190 {r : Int64} {σ' : Mem} (hC : CallFix p m c cX9_bills 5 s args WALL RX9) (hG : GS D cy A s) (hR : 5 ≤ R.frames ∧ 180 ≤ R.locals) (Kr : KrL p l e R s m args below meth c cX9_bills Q D cy ad A z r σ')  (o0 : Nat)  (σ : Mem) (H : Heap) (locs : List Loc) (ls : Array Slot) (h : fX9_bills_b190 o0 σ = some (r, σ')) (hM : MS D cy ad A s.heap z σ H locs) (hl : lv_has ls 5 [(0, va_rf (Option.map ad (some o0)))]) : W p l e R s m args below meth c H locs 0 0 Q (F0 m 190 ls []) := by
  have hx := hC.1
  have hb := hC.2.1
  unfold fX9_bills_b190 at h
  refine lr_aload_n hx hb dX9_bills_190 rfl (lv_at hl 0 rfl) ?_
  obtain ⟨t1, e_t1, h⟩ := bn h
  refine gf_X9_72 hC hG hM e_t1 dX9_bills_191 ?_
  refine lv_bipush (v := 15) hx hb dX9_bills_194 (by decide) ?_
  obtain ⟨t2, e_t2, h⟩ := bn h
  refine g_lald hx hb hG hM e_t2 dX9_bills_196 ?_
  refine lv_ldc2 (v := 1000000000000000) hx hb hC.2.2.2.1 (hC.2.2.2.2 _ wk_X9_258) dX9_bills_197 ?_
  refine lc_ne (tgt := 208) hx hb dX9_bills_200 dX9_bills_201 (by decide) (fun c3 => ?_) (fun c3 => ?_)
  · rw [if_neg c3] at h
    refine lv_bipush (v := 15) hx hb dX9_bills_208 (by decide) ?_
    refine lv_istore_n (lv' := [(1, .int 15), (0, va_rf (Option.map ad (some o0)))]) hx hb dX9_bills_210 rfl hl (by decide) (by first | rfl | simp [va_cat]) (fun ls hl => ?_)
    exact wX9_bills_b211 hC hG hR Kr FU _ _ _ _ _ _ h hM (lv_sub hl [1, 0] rfl)
  · rw [if_pos c3] at h
    refine lv_ldc2 (v := (-1)) hx hb hC.2.2.2.1 (hC.2.2.2.2 _ wk_X9_273) dX9_bills_204 ?_
    obtain ⟨rfl, rfl⟩ := Prod.mk.inj (Option.some.inj h)
    exact Kr _ _ _ _ dX9_bills_207 hM
def fX9_bills_b184 (rc60 : Nat → Int32 → Mem → Option (Int64 × Mem)) (o0 : Nat) (x1 : Int32)  (σ : Mem) : Option (Int64 × Mem) :=
  bd (x1 + 1) fun t1 =>
    rc60 o0 t1 σ
set_option maxRecDepth 20000 in
theorem wX9_bills_b184 {r : Int64} {σ' : Mem} (hC : CallFix p m c cX9_bills 5 s args WALL RX9) (hG : GS D cy A s) (hR : 5 ≤ R.frames ∧ 180 ≤ R.locals) (Kr : KrL p l e R s m args below meth c cX9_bills Q D cy ad A z r σ') {rc60 : Nat → Int32 → Mem → Option (Int64 × Mem)} (Kc60 : ∀ (o0 : Nat) (x1 : Int32) (τ : Mem) (H : Heap) (locs : List Loc) (ls : Array Slot), rc60 o0 x1 τ = some (r, σ') → MS D cy ad A s.heap z τ H locs → lv_has ls 5 [(0, va_rf (Option.map ad (some o0))), (1, .int x1)] → W p l e R s m args below meth c H locs 0 0 Q (F0 m 60 ls [])) (o0 : Nat) (x1 : Int32)  (σ : Mem) (H : Heap) (locs : List Loc) (ls : Array Slot) (h : fX9_bills_b184 rc60 o0 x1 σ = some (r, σ')) (hM : MS D cy ad A s.heap z σ H locs) (hl : lv_has ls 5 [(0, va_rf (Option.map ad (some o0))), (1, .int x1)]) : W p l e R s m args below meth c H locs 0 0 Q (F0 m 184 ls []) := by
  have hx := hC.1
  have hb := hC.2.1
  unfold fX9_bills_b184 at h
  obtain ⟨t1, e_t1, h⟩ := bd_elim h
  refine lv_iinc (v := t1) (lv' := [(1, .int t1), (0, va_rf (Option.map ad (some o0)))]) hx hb dX9_bills_184 hl (k := 1) rfl (by rw [e_t1]; rfl) (by decide) (by first | rfl | simp [va_cat]) (fun ls hl => ?_)
  refine lv_goto (tgt := 60) hx hb dX9_bills_187 (by decide) ?_
  exact Kc60 _ _ _ _ _ _ h hM (lv_sub hl [1, 0] rfl)
def fX9_bills_b178 (rc60 : Nat → Int32 → Mem → Option (Int64 × Mem)) (rc77 : Nat → Int32 → Int32 → Mem → Option (Int64 × Mem)) (o0 : Nat) (x1 : Int32) (x2 : Int32)  (σ : Mem) : Option (Int64 × Mem) :=
  bd (x2 + 1) fun t1 =>
    rc77 o0 x1 t1 σ
set_option maxRecDepth 20000 in
theorem wX9_bills_b178 {r : Int64} {σ' : Mem} (hC : CallFix p m c cX9_bills 5 s args WALL RX9) (hG : GS D cy A s) (hR : 5 ≤ R.frames ∧ 180 ≤ R.locals) (Kr : KrL p l e R s m args below meth c cX9_bills Q D cy ad A z r σ') {rc60 : Nat → Int32 → Mem → Option (Int64 × Mem)} (Kc60 : ∀ (o0 : Nat) (x1 : Int32) (τ : Mem) (H : Heap) (locs : List Loc) (ls : Array Slot), rc60 o0 x1 τ = some (r, σ') → MS D cy ad A s.heap z τ H locs → lv_has ls 5 [(0, va_rf (Option.map ad (some o0))), (1, .int x1)] → W p l e R s m args below meth c H locs 0 0 Q (F0 m 60 ls [])) {rc77 : Nat → Int32 → Int32 → Mem → Option (Int64 × Mem)} (Kc77 : ∀ (o0 : Nat) (x1 : Int32) (x2 : Int32) (τ : Mem) (H : Heap) (locs : List Loc) (ls : Array Slot), rc77 o0 x1 x2 τ = some (r, σ') → MS D cy ad A s.heap z τ H locs → lv_has ls 5 [(0, va_rf (Option.map ad (some o0))), (1, .int x1), (2, .int x2)] → W p l e R s m args below meth c H locs 0 0 Q (F0 m 77 ls [])) (o0 : Nat) (x1 : Int32) (x2 : Int32)  (σ : Mem) (H : Heap) (locs : List Loc) (ls : Array Slot) (h : fX9_bills_b178 rc60 rc77 o0 x1 x2 σ = some (r, σ')) (hM : MS D cy ad A s.heap z σ H locs) (hl : lv_has ls 5 [(0, va_rf (Option.map ad (some o0))), (1, .int x1), (2, .int x2)]) : W p l e R s m args below meth c H locs 0 0 Q (F0 m 178 ls []) := by
  have hx := hC.1
  have hb := hC.2.1
  unfold fX9_bills_b178 at h
  obtain ⟨t1, e_t1, h⟩ := bd_elim h
  refine lv_iinc (v := t1) (lv' := [(2, .int t1), (0, va_rf (Option.map ad (some o0))), (1, .int x1)]) hx hb dX9_bills_178 hl (k := 2) rfl (by rw [e_t1]; rfl) (by decide) (by first | rfl | simp [va_cat]) (fun ls hl => ?_)
  refine lv_goto (tgt := 77) hx hb dX9_bills_181 (by decide) ?_
  exact Kc77 _ _ _ _ _ _ _ h hM (lv_sub hl [1, 2, 0] rfl)
def fX9_bills_b77 (rc60 : Nat → Int32 → Mem → Option (Int64 × Mem)) : Nat → Nat → Int32 → Int32 → Mem → Option (Int64 × Mem)
  | 0, _, _, _, _ => none
  | n + 1, o0, x1, x2, σ =>
    if x1 < x2 then fX9_bills_b184 rc60 o0 x1 σ
      else if (x2 &&& (x1 ^^^ (-1))) = 0 then if ((x2 &&& x1) &&& (-x1)) = 0 then fX9_bills_b178 rc60 (fX9_bills_b77 rc60 n) o0 x1 x2 σ
          else (fR σ 9 36 (some o0)).bind fun t4 =>
            (aJ σ 12 t4 x2).bind fun t5 =>
            if t5 = 1000000000000000 then fX9_bills_b178 rc60 (fX9_bills_b77 rc60 n) o0 x1 x2 σ
            else (fR σ 9 37 (some o0)).bind fun t7 =>
              (aJ σ 12 t7 (x1 &&& (x2 ^^^ (-1)))).bind fun t8 =>
              if t8 = 1000000000000000 then fX9_bills_b178 rc60 (fX9_bills_b77 rc60 n) o0 x1 x2 σ
              else (fR σ 9 36 (some o0)).bind fun t10 =>
                (aJ σ 12 t10 x2).bind fun t11 =>
                (fR σ 9 37 (some o0)).bind fun t12 =>
                (aJ σ 12 t12 (x1 &&& (x2 ^^^ (-1)))).bind fun t13 =>
                bd (t11 + t13) fun t14 =>
                (fR σ 9 37 (some o0)).bind fun t15 =>
                (aJ σ 12 t15 x1).bind fun t16 =>
                if t14 < t16 then (fR σ 9 37 (some o0)).bind fun t18 =>
                  (wJ σ 12 t18 x1 t14).bind fun m19 =>
                  (fR m19 9 38 (some o0)).bind fun t20 =>
                  (wI m19 11 t20 x1 x2).bind fun m21 =>
                  fX9_bills_b178 rc60 (fX9_bills_b77 rc60 n) o0 x1 x2 m21
                else fX9_bills_b178 rc60 (fX9_bills_b77 rc60 n) o0 x1 x2 σ
        else fX9_bills_b178 rc60 (fX9_bills_b77 rc60 n) o0 x1 x2 σ
set_option maxRecDepth 20000 in
theorem wX9_bills_b77 {r : Int64} {σ' : Mem} (hC : CallFix p m c cX9_bills 5 s args WALL RX9) (hG : GS D cy A s) (hR : 5 ≤ R.frames ∧ 180 ≤ R.locals) (Kr : KrL p l e R s m args below meth c cX9_bills Q D cy ad A z r σ') {rc60 : Nat → Int32 → Mem → Option (Int64 × Mem)} (Kc60 : ∀ (o0 : Nat) (x1 : Int32) (τ : Mem) (H : Heap) (locs : List Loc) (ls : Array Slot), rc60 o0 x1 τ = some (r, σ') → MS D cy ad A s.heap z τ H locs → lv_has ls 5 [(0, va_rf (Option.map ad (some o0))), (1, .int x1)] → W p l e R s m args below meth c H locs 0 0 Q (F0 m 60 ls [])) : ∀ (n : Nat) (o0 : Nat) (x1 : Int32) (x2 : Int32)  (σ : Mem) (H : Heap) (locs : List Loc) (ls : Array Slot), fX9_bills_b77 rc60 n o0 x1 x2 σ = some (r, σ') → MS D cy ad A s.heap z σ H locs → lv_has ls 5 [(0, va_rf (Option.map ad (some o0))), (1, .int x1), (2, .int x2)] → W p l e R s m args below meth c H locs 0 0 Q (F0 m 77 ls []) := by
  have hx := hC.1
  have hb := hC.2.1
  intro n
  induction n with
  | zero =>
    intro o0 x1 x2 σ H locs ls h
    cases h
  | succ n ih =>
    intro o0 x1 x2 σ H locs ls h hM hl
    rw [fX9_bills_b77] at h
    refine lv_iload_n hx hb dX9_bills_77 rfl (lv_at hl 2 rfl) ?_
    refine lv_iload_n hx hb dX9_bills_78 rfl (lv_at hl 1 rfl) ?_
    refine lv_icmp_gt (tgt := 184) hx hb dX9_bills_79 (by decide) (fun c1 => ?_) (fun c1 => ?_)
    · rw [if_pos c1] at h
      exact wX9_bills_b184 hC hG hR Kr Kc60 _ _ _ _ _ _ h hM (lv_sub hl [0, 1] rfl)
    · rw [if_neg c1] at h
      refine lv_iload_n hx hb dX9_bills_82 rfl (lv_at hl 2 rfl) ?_
      refine lv_iload_n hx hb dX9_bills_83 rfl (lv_at hl 1 rfl) ?_
      refine lv_iconst (v := (-1)) hx hb dX9_bills_84 (by decide) ?_
      refine lv_ixor hx hb dX9_bills_85 ?_
      refine lv_iand hx hb dX9_bills_86 ?_
      refine lv_if_ne (tgt := 178) hx hb dX9_bills_87 (by decide) (fun c2 => ?_) (fun c2 => ?_)
      · rw [if_neg c2] at h
        exact wX9_bills_b178 hC hG hR Kr Kc60 ih _ _ _ _ _ _ _ h hM (lv_sub hl [0, 1, 2] rfl)
      · rw [if_pos c2] at h
        refine lv_iload_n hx hb dX9_bills_90 rfl (lv_at hl 2 rfl) ?_
        refine lv_iload_n hx hb dX9_bills_91 rfl (lv_at hl 1 rfl) ?_
        refine lv_iand hx hb dX9_bills_92 ?_
        refine lv_iload_n hx hb dX9_bills_93 rfl (lv_at hl 1 rfl) ?_
        refine lv_ineg hx hb dX9_bills_94 ?_
        refine lv_iand hx hb dX9_bills_95 ?_
        refine lv_if_eq (tgt := 178) hx hb dX9_bills_96 (by decide) (fun c3 => ?_) (fun c3 => ?_)
        · rw [if_pos c3] at h
          exact wX9_bills_b178 hC hG hR Kr Kc60 ih _ _ _ _ _ _ _ h hM (lv_sub hl [0, 1, 2] rfl)
        · rw [if_neg c3] at h
          refine lr_aload_n hx hb dX9_bills_99 rfl (lv_at hl 0 rfl) ?_
          obtain ⟨t4, e_t4, h⟩ := bn h
          refine gf_X9_69 hC hG hM e_t4 dX9_bills_100 ?_
          refine lv_iload_n hx hb dX9_bills_103 rfl (lv_at hl 2 rfl) ?_
          obtain ⟨t5, e_t5, h⟩ := bn h
          refine g_lald hx hb hG hM e_t5 dX9_bills_104 ?_
          refine lv_ldc2 (v := 1000000000000000) hx hb hC.2.2.2.1 (hC.2.2.2.2 _ wk_X9_258) dX9_bills_105 ?_
          refine lc_eq (tgt := 178) hx hb dX9_bills_108 dX9_bills_109 (by decide) (fun c6 => ?_) (fun c6 => ?_)
          · rw [if_pos c6] at h
            exact wX9_bills_b178 hC hG hR Kr Kc60 ih _ _ _ _ _ _ _ h hM (lv_sub hl [0, 1, 2] rfl)
          · rw [if_neg c6] at h
            refine lr_aload_n hx hb dX9_bills_112 rfl (lv_at hl 0 rfl) ?_
            obtain ⟨t7, e_t7, h⟩ := bn h
            refine gf_X9_72 hC hG hM e_t7 dX9_bills_113 ?_
            refine lv_iload_n hx hb dX9_bills_116 rfl (lv_at hl 1 rfl) ?_
            refine lv_iload_n hx hb dX9_bills_117 rfl (lv_at hl 2 rfl) ?_
            refine lv_iconst (v := (-1)) hx hb dX9_bills_118 (by decide) ?_
            refine lv_ixor hx hb dX9_bills_119 ?_
            refine lv_iand hx hb dX9_bills_120 ?_
            obtain ⟨t8, e_t8, h⟩ := bn h
            refine g_lald hx hb hG hM e_t8 dX9_bills_121 ?_
            refine lv_ldc2 (v := 1000000000000000) hx hb hC.2.2.2.1 (hC.2.2.2.2 _ wk_X9_258) dX9_bills_122 ?_
            refine lc_ne (tgt := 132) hx hb dX9_bills_125 dX9_bills_126 (by decide) (fun c9 => ?_) (fun c9 => ?_)
            · rw [if_neg c9] at h
              refine lr_aload_n hx hb dX9_bills_132 rfl (lv_at hl 0 rfl) ?_
              obtain ⟨t10, e_t10, h⟩ := bn h
              refine gf_X9_69 hC hG hM e_t10 dX9_bills_133 ?_
              refine lv_iload_n hx hb dX9_bills_136 rfl (lv_at hl 2 rfl) ?_
              obtain ⟨t11, e_t11, h⟩ := bn h
              refine g_lald hx hb hG hM e_t11 dX9_bills_137 ?_
              refine lr_aload_n hx hb dX9_bills_138 rfl (lv_at hl 0 rfl) ?_
              obtain ⟨t12, e_t12, h⟩ := bn h
              refine gf_X9_72 hC hG hM e_t12 dX9_bills_139 ?_
              refine lv_iload_n hx hb dX9_bills_142 rfl (lv_at hl 1 rfl) ?_
              refine lv_iload_n hx hb dX9_bills_143 rfl (lv_at hl 2 rfl) ?_
              refine lv_iconst (v := (-1)) hx hb dX9_bills_144 (by decide) ?_
              refine lv_ixor hx hb dX9_bills_145 ?_
              refine lv_iand hx hb dX9_bills_146 ?_
              obtain ⟨t13, e_t13, h⟩ := bn h
              refine g_lald hx hb hG hM e_t13 dX9_bills_147 ?_
              refine lv_ladd hx hb dX9_bills_148 ?_
              obtain ⟨t14, e_t14, h⟩ := bd_elim h
              refine lr_nml e_t14 ?_
              refine lv_lstore_n (lv' := [(3, .long t14), (0, va_rf (Option.map ad (some o0))), (1, .int x1), (2, .int x2)]) hx hb dX9_bills_149 rfl hl (by decide) (by first | rfl | simp [va_cat]) (fun ls hl => ?_)
              refine lv_lload_n hx hb dX9_bills_150 rfl (lv_at hl 0 rfl) ?_
              refine lr_aload_n hx hb dX9_bills_151 rfl (lv_at hl 1 rfl) ?_
              obtain ⟨t15, e_t15, h⟩ := bn h
              refine gf_X9_72 hC hG hM e_t15 dX9_bills_152 ?_
              refine lv_iload_n hx hb dX9_bills_155 rfl (lv_at hl 2 rfl) ?_
              obtain ⟨t16, e_t16, h⟩ := bn h
              refine g_lald hx hb hG hM e_t16 dX9_bills_156 ?_
              refine lc_lt (tgt := 164) hx hb dX9_bills_157 dX9_bills_158 (by decide) (fun c17 => ?_) (fun c17 => ?_)
              · rw [if_pos c17] at h
                refine lr_aload_n hx hb dX9_bills_164 rfl (lv_at hl 1 rfl) ?_
                obtain ⟨t18, e_t18, h⟩ := bn h
                refine gf_X9_72 hC hG hM e_t18 dX9_bills_165 ?_
                refine lv_iload_n hx hb dX9_bills_168 rfl (lv_at hl 2 rfl) ?_
                refine lv_lload_n hx hb dX9_bills_169 rfl (lv_at hl 0 rfl) ?_
                obtain ⟨m19, e_m19, h⟩ := bn h
                refine g_last hx hb hG hM e_m19 dX9_bills_170 (fun H locs hM => ?_)
                refine lr_aload_n hx hb dX9_bills_171 rfl (lv_at hl 1 rfl) ?_
                obtain ⟨t20, e_t20, h⟩ := bn h
                refine gf_X9_75 hC hG hM e_t20 dX9_bills_172 ?_
                refine lv_iload_n hx hb dX9_bills_175 rfl (lv_at hl 2 rfl) ?_
                refine lv_iload_n hx hb dX9_bills_176 rfl (lv_at hl 3 rfl) ?_
                obtain ⟨m21, e_m21, h⟩ := bn h
                refine g_iast hx hb hG hM e_m21 dX9_bills_177 (fun H locs hM => ?_)
                exact wX9_bills_b178 hC hG hR Kr Kc60 ih _ _ _ _ _ _ _ h hM (lv_sub hl [1, 2, 3] rfl)
              · rw [if_neg c17] at h
                refine lv_goto (tgt := 178) hx hb dX9_bills_161 (by decide) ?_
                exact wX9_bills_b178 hC hG hR Kr Kc60 ih _ _ _ _ _ _ _ h hM (lv_sub hl [1, 2, 3] rfl)
            · rw [if_pos c9] at h
              refine lv_goto (tgt := 178) hx hb dX9_bills_129 (by decide) ?_
              exact wX9_bills_b178 hC hG hR Kr Kc60 ih _ _ _ _ _ _ _ h hM (lv_sub hl [0, 1, 2] rfl)
def fX9_bills_b60  : Nat → Nat → Int32 → Mem → Option (Int64 × Mem)
  | 0, _, _, _ => none
  | n + 1, o0, x1, σ =>
    if 16 ≤ x1 then fX9_bills_b190 o0 σ
      else (fR σ 9 37 (some o0)).bind fun t2 =>
        (wJ σ 12 t2 x1 1000000000000000).bind fun m3 =>
        fX9_bills_b77 (fX9_bills_b60 n) FU o0 x1 1 m3
set_option maxRecDepth 20000 in
theorem wX9_bills_b60 {r : Int64} {σ' : Mem} (hC : CallFix p m c cX9_bills 5 s args WALL RX9) (hG : GS D cy A s) (hR : 5 ≤ R.frames ∧ 180 ≤ R.locals) (Kr : KrL p l e R s m args below meth c cX9_bills Q D cy ad A z r σ')  : ∀ (n : Nat) (o0 : Nat) (x1 : Int32)  (σ : Mem) (H : Heap) (locs : List Loc) (ls : Array Slot), fX9_bills_b60 n o0 x1 σ = some (r, σ') → MS D cy ad A s.heap z σ H locs → lv_has ls 5 [(0, va_rf (Option.map ad (some o0))), (1, .int x1)] → W p l e R s m args below meth c H locs 0 0 Q (F0 m 60 ls []) := by
  have hx := hC.1
  have hb := hC.2.1
  intro n
  induction n with
  | zero =>
    intro o0 x1 σ H locs ls h
    cases h
  | succ n ih =>
    intro o0 x1 σ H locs ls h hM hl
    rw [fX9_bills_b60] at h
    refine lv_iload_n hx hb dX9_bills_60 rfl (lv_at hl 1 rfl) ?_
    refine lv_bipush (v := 16) hx hb dX9_bills_61 (by decide) ?_
    refine lv_icmp_ge (tgt := 190) hx hb dX9_bills_63 (by decide) (fun c1 => ?_) (fun c1 => ?_)
    · rw [if_pos c1] at h
      exact wX9_bills_b190 hC hG hR Kr _ _ _ _ _ h hM (lv_sub hl [0] rfl)
    · rw [if_neg c1] at h
      refine lr_aload_n hx hb dX9_bills_66 rfl (lv_at hl 0 rfl) ?_
      obtain ⟨t2, e_t2, h⟩ := bn h
      refine gf_X9_72 hC hG hM e_t2 dX9_bills_67 ?_
      refine lv_iload_n hx hb dX9_bills_70 rfl (lv_at hl 1 rfl) ?_
      refine lv_ldc2 (v := 1000000000000000) hx hb hC.2.2.2.1 (hC.2.2.2.2 _ wk_X9_258) dX9_bills_71 ?_
      obtain ⟨m3, e_m3, h⟩ := bn h
      refine g_last hx hb hG hM e_m3 dX9_bills_74 (fun H locs hM => ?_)
      refine lv_iconst (v := 1) hx hb dX9_bills_75 (by decide) ?_
      refine lv_istore_n (lv' := [(2, .int 1), (0, va_rf (Option.map ad (some o0))), (1, .int x1)]) hx hb dX9_bills_76 rfl hl (by decide) (by first | rfl | simp [va_cat]) (fun ls hl => ?_)
      exact wX9_bills_b77 hC hG hR Kr ih FU _ _ _ _ _ _ _ h hM (lv_sub hl [1, 2, 0] rfl)
def fX9_bills_b51  (o0 : Nat)  (σ : Mem) : Option (Int64 × Mem) :=
  (fR σ 9 37 (some o0)).bind fun t1 =>
    (wJ σ 12 t1 0 0).bind fun m2 =>
    fX9_bills_b60 FU o0 1 m2
set_option maxRecDepth 20000 in
theorem wX9_bills_b51 {r : Int64} {σ' : Mem} (hC : CallFix p m c cX9_bills 5 s args WALL RX9) (hG : GS D cy A s) (hR : 5 ≤ R.frames ∧ 180 ≤ R.locals) (Kr : KrL p l e R s m args below meth c cX9_bills Q D cy ad A z r σ')  (o0 : Nat)  (σ : Mem) (H : Heap) (locs : List Loc) (ls : Array Slot) (h : fX9_bills_b51 o0 σ = some (r, σ')) (hM : MS D cy ad A s.heap z σ H locs) (hl : lv_has ls 5 [(0, va_rf (Option.map ad (some o0)))]) : W p l e R s m args below meth c H locs 0 0 Q (F0 m 51 ls []) := by
  have hx := hC.1
  have hb := hC.2.1
  unfold fX9_bills_b51 at h
  refine lr_aload_n hx hb dX9_bills_51 rfl (lv_at hl 0 rfl) ?_
  obtain ⟨t1, e_t1, h⟩ := bn h
  refine gf_X9_72 hC hG hM e_t1 dX9_bills_52 ?_
  refine lv_iconst (v := 0) hx hb dX9_bills_55 (by decide) ?_
  refine lv_lconst (v := 0) hx hb dX9_bills_56 (by decide) ?_
  obtain ⟨m2, e_m2, h⟩ := bn h
  refine g_last hx hb hG hM e_m2 dX9_bills_57 (fun H locs hM => ?_)
  refine lv_iconst (v := 1) hx hb dX9_bills_58 (by decide) ?_
  refine lv_istore_n (lv' := [(1, .int 1), (0, va_rf (Option.map ad (some o0)))]) hx hb dX9_bills_59 rfl hl (by decide) (by first | rfl | simp [va_cat]) (fun ls hl => ?_)
  exact wX9_bills_b60 hC hG hR Kr FU _ _ _ _ _ _ h hM (lv_sub hl [1, 0] rfl)
def fX9_bills_b44 (rc7 : Nat → Int32 → Mem → Option (Int64 × Mem)) (o0 : Nat) (x1 : Int32) (y0 : Int64) (y1 : Int32) (y2 : Option Nat) (σ : Mem) : Option (Int64 × Mem) :=
  (wJ σ 12 y2 y1 y0).bind fun m1 =>
    bd (x1 + 1) fun t2 =>
    rc7 o0 t2 m1
set_option maxRecDepth 20000 in
theorem wX9_bills_b44 {r : Int64} {σ' : Mem} (hC : CallFix p m c cX9_bills 5 s args WALL RX9) (hG : GS D cy A s) (hR : 5 ≤ R.frames ∧ 180 ≤ R.locals) (Kr : KrL p l e R s m args below meth c cX9_bills Q D cy ad A z r σ') {rc7 : Nat → Int32 → Mem → Option (Int64 × Mem)} (Kc7 : ∀ (o0 : Nat) (x1 : Int32) (τ : Mem) (H : Heap) (locs : List Loc) (ls : Array Slot), rc7 o0 x1 τ = some (r, σ') → MS D cy ad A s.heap z τ H locs → lv_has ls 5 [(0, va_rf (Option.map ad (some o0))), (1, .int x1)] → W p l e R s m args below meth c H locs 0 0 Q (F0 m 7 ls [])) (o0 : Nat) (x1 : Int32) (y0 : Int64) (y1 : Int32) (y2 : Option Nat) (σ : Mem) (H : Heap) (locs : List Loc) (ls : Array Slot) (h : fX9_bills_b44 rc7 o0 x1 y0 y1 y2 σ = some (r, σ')) (hM : MS D cy ad A s.heap z σ H locs) (hl : lv_has ls 5 [(0, va_rf (Option.map ad (some o0))), (1, .int x1)]) : W p l e R s m args below meth c H locs 0 0 Q (F0 m 44 ls [.long y0, .int y1, va_rf (Option.map ad y2)]) := by
  have hx := hC.1
  have hb := hC.2.1
  unfold fX9_bills_b44 at h
  obtain ⟨m1, e_m1, h⟩ := bn h
  refine g_last hx hb hG hM e_m1 dX9_bills_44 (fun H locs hM => ?_)
  obtain ⟨t2, e_t2, h⟩ := bd_elim h
  refine lv_iinc (v := t2) (lv' := [(1, .int t2), (0, va_rf (Option.map ad (some o0)))]) hx hb dX9_bills_45 hl (k := 1) rfl (by rw [e_t2]; rfl) (by decide) (by first | rfl | simp [va_cat]) (fun ls hl => ?_)
  refine lv_goto (tgt := 7) hx hb dX9_bills_48 (by decide) ?_
  exact Kc7 _ _ _ _ _ _ h hM (lv_sub hl [1, 0] rfl)
def fX9_bills_b7  : Nat → Nat → Int32 → Mem → Option (Int64 × Mem)
  | 0, _, _, _ => none
  | n + 1, o0, x1, σ =>
    if 16 ≤ x1 then fX9_bills_b51 o0 σ
      else (kT σ 9 (some o0)).bind fun k2 =>
        b2 (fX9_find k2 x1 0 24 σ) fun t3 m4 =>
        (fR m4 9 36 (some o0)).bind fun t5 =>
        if t3 = (-1) then fX9_bills_b44 (fX9_bills_b7 n) o0 x1 1000000000000000 x1 t5 m4
        else (fR m4 9 29 (some o0)).bind fun t7 =>
          (aJ m4 12 t7 t3).bind fun t8 =>
          fX9_bills_b44 (fX9_bills_b7 n) o0 x1 t8 x1 t5 m4
set_option maxRecDepth 20000 in
theorem wX9_bills_b7 {r : Int64} {σ' : Mem} (hC : CallFix p m c cX9_bills 5 s args WALL RX9) (hG : GS D cy A s) (hR : 5 ≤ R.frames ∧ 180 ≤ R.locals) (Kr : KrL p l e R s m args below meth c cX9_bills Q D cy ad A z r σ')  : ∀ (n : Nat) (o0 : Nat) (x1 : Int32)  (σ : Mem) (H : Heap) (locs : List Loc) (ls : Array Slot), fX9_bills_b7 n o0 x1 σ = some (r, σ') → MS D cy ad A s.heap z σ H locs → lv_has ls 5 [(0, va_rf (Option.map ad (some o0))), (1, .int x1)] → W p l e R s m args below meth c H locs 0 0 Q (F0 m 7 ls []) := by
  have hx := hC.1
  have hb := hC.2.1
  intro n
  induction n with
  | zero =>
    intro o0 x1 σ H locs ls h
    cases h
  | succ n ih =>
    intro o0 x1 σ H locs ls h hM hl
    rw [fX9_bills_b7] at h
    refine lv_iload_n hx hb dX9_bills_7 rfl (lv_at hl 1 rfl) ?_
    refine lv_bipush (v := 16) hx hb dX9_bills_8 (by decide) ?_
    refine lv_icmp_ge (tgt := 51) hx hb dX9_bills_10 (by decide) (fun c1 => ?_) (fun c1 => ?_)
    · rw [if_pos c1] at h
      exact wX9_bills_b51 hC hG hR Kr _ _ _ _ _ h hM (lv_sub hl [0] rfl)
    · rw [if_neg c1] at h
      refine lr_aload_n hx hb dX9_bills_13 rfl (lv_at hl 0 rfl) ?_
      refine lv_iload_n hx hb dX9_bills_14 rfl (lv_at hl 1 rfl) ?_
      refine lv_iconst (v := 0) hx hb dX9_bills_15 (by decide) ?_
      refine lv_bipush (v := 24) hx hb dX9_bills_16 (by decide) ?_
      obtain ⟨k2, e_k2, h⟩ := bn h
      obtain ⟨t3, m4, e_m4, h⟩ := b2_elim h
      refine cs_X9_275 e_k2 hC hG hM (cX9_find_ok e_m4) ⟨by omega, by omega⟩ hl.1 (by first | exact Nat.le_of_ble_eq_true rfl | simp [va_cat, vcI, vcL, vcR]) dX9_bills_18 (fun H locs hM => ?_)
      refine lv_istore_n (lv' := [(2, .int t3), (0, va_rf (Option.map ad (some o0))), (1, .int x1)]) hx hb dX9_bills_21 rfl hl (by decide) (by first | rfl | simp [va_cat]) (fun ls hl => ?_)
      refine lr_aload_n hx hb dX9_bills_22 rfl (lv_at hl 1 rfl) ?_
      obtain ⟨t5, e_t5, h⟩ := bn h
      refine gf_X9_69 hC hG hM e_t5 dX9_bills_23 ?_
      refine lv_iload_n hx hb dX9_bills_26 rfl (lv_at hl 2 rfl) ?_
      refine lv_iload_n hx hb dX9_bills_27 rfl (lv_at hl 0 rfl) ?_
      refine lv_iconst (v := (-1)) hx hb dX9_bills_28 (by decide) ?_
      refine lv_icmp_ne (tgt := 38) hx hb dX9_bills_29 (by decide) (fun c6 => ?_) (fun c6 => ?_)
      · rw [if_neg c6] at h
        refine lr_aload_n hx hb dX9_bills_38 rfl (lv_at hl 1 rfl) ?_
        obtain ⟨t7, e_t7, h⟩ := bn h
        refine gf_X9_54 hC hG hM e_t7 dX9_bills_39 ?_
        refine lv_iload_n hx hb dX9_bills_42 rfl (lv_at hl 0 rfl) ?_
        obtain ⟨t8, e_t8, h⟩ := bn h
        refine g_lald hx hb hG hM e_t8 dX9_bills_43 ?_
        exact wX9_bills_b44 hC hG hR Kr ih _ _ _ _ _ _ _ _ _ h hM (lv_sub hl [1, 2] rfl)
      · rw [if_pos c6] at h
        refine lv_ldc2 (v := 1000000000000000) hx hb hC.2.2.2.1 (hC.2.2.2.2 _ wk_X9_258) dX9_bills_32 ?_
        refine lv_goto (tgt := 44) hx hb dX9_bills_35 (by decide) ?_
        exact wX9_bills_b44 hC hG hR Kr ih _ _ _ _ _ _ _ _ _ h hM (lv_sub hl [1, 2] rfl)
def fX9_bills (o0 : Nat) (σ : Mem) : Option (Int64 × Mem) :=
  (pI σ 9 0 (some o0) 0).bind fun m1 =>
    fX9_bills_b7 FU o0 1 m1
set_option maxRecDepth 20000 in
theorem wX9_bills {r : Int64} {σ' : Mem} (hC : CallFix p m c cX9_bills 5 s args WALL RX9) (hG : GS D cy A s) (hR : 5 ≤ R.frames ∧ 180 ≤ R.locals) (Kr : KrL p l e R s m args below meth c cX9_bills Q D cy ad A z r σ') (o0 : Nat) (σ : Mem) (H : Heap) (locs : List Loc) (ls : Array Slot) (h : fX9_bills o0 σ = some (r, σ')) (hM : MS D cy ad A s.heap z σ H locs) (hl : lv_has ls 5 [(0, va_rf (Option.map ad (some o0)))]) : W p l e R s m args below meth c H locs 0 0 Q (F0 m 0 ls []) := by
  have hx := hC.1
  have hb := hC.2.1
  unfold fX9_bills at h
  refine lr_aload_n hx hb dX9_bills_0 rfl (lv_at hl 0 rfl) ?_
  refine lv_iconst (v := 0) hx hb dX9_bills_1 (by decide) ?_
  obtain ⟨m1, e_m1, h⟩ := bn h
  refine pf_X9_87 hC hG hM e_m1 dX9_bills_2 (fun H locs hM => ?_)
  refine lv_iconst (v := 1) hx hb dX9_bills_5 (by decide) ?_
  refine lv_istore_n (lv' := [(1, .int 1), (0, va_rf (Option.map ad (some o0)))]) hx hb dX9_bills_6 rfl hl (by decide) (by first | rfl | simp [va_cat]) (fun ls hl => ?_)
  exact wX9_bills_b7 hC hG hR Kr FU _ _ _ _ _ _ h hM (lv_sub hl [1, 0] rfl)
theorem cX9_bills_ok {l : Launch} {D : va_G} {cy : Nat → ClassId} {ad : Nat → Nat} {A : Nat → Prop} {z : Nat} {r : Int64} {σ' : Mem} {o0 : Nat} {σ : Mem} (h : fX9_bills o0 σ = some (r, σ')) : CtL l yX9_bills cX9_bills 5 (some .long) 5 [.ref (ad o0)] D cy ad A z σ r σ' :=
  enterL (own := RX9) (by decide) rfl (Nat.le_of_ble_eq_true rfl) rfl (fun p e s m below meth c Q ls hC hG hM Kr hl => wX9_bills hC hG ⟨Nat.le_refl _, Nat.le_refl _⟩ Kr _ _ _ _ _ h hM hl)
/-! X9_readText ()Z -/
def fX9_readText_b79    (σ : Mem) : Option (Int32 × Mem) :=
  some (1, σ)
set_option maxRecDepth 20000 in
theorem wX9_readText_b79 {r : Int32} {σ' : Mem} (hC : CallFix p m c cX9_readText 1 s args WALL RX9) (hG : GS D cy A s) (hR : 5 ≤ R.frames ∧ 180 ≤ R.locals) (Kr : KrZ p l e R s m args below meth c cX9_readText Q D cy ad A z r σ')    (σ : Mem) (H : Heap) (locs : List Loc) (ls : Array Slot) (h : fX9_readText_b79  σ = some (r, σ')) (hM : MS D cy ad A s.heap z σ H locs) (hl : lv_has ls 1 []) : W p l e R s m args below meth c H locs 0 0 Q (F0 m 79 ls []) := by
  have hx := hC.1
  have hb := hC.2.1
  unfold fX9_readText_b79 at h
  refine lv_iconst (v := 1) hx hb dX9_readText_79 (by decide) ?_
  cases h
  exact Kr _ _ _ _ dX9_readText_80 rfl hM
def fX9_readText_b14  : Nat → Nat → Mem → Option (Int32 × Mem)
  | 0, _, _ => none
  | n + 1, o0, σ =>
    (kT σ 9 (some o0)).bind fun k1 =>
      b2 (fX9_isKey k1 323717 σ) fun t2 m3 =>
      if t2 = 0 then (kT m3 9 (some o0)).bind fun k22 =>
        b2 (fX9_bad k22 1 m3) fun t23 m24 =>
        if t23 = 0 ∨ t23 = 1 then some (t23, m24) else none
      else (fI m3 9 24 (some o0)).bind fun t5 =>
        if t5 = 10 then (kT m3 9 (some o0)).bind fun k18 =>
          b2 (fX9_bad k18 4 m3) fun t19 m20 =>
          if t19 = 0 ∨ t19 = 1 then some (t19, m20) else none
        else (kT m3 9 (some o0)).bind fun k7 =>
          (fX9_go k7 m3).bind fun m8 =>
          (fI m8 9 24 (some o0)).bind fun t9 =>
          (kT m8 9 (some o0)).bind fun k10 =>
          b2 (fX9_readPlan k10 t9 m8) fun t11 m12 =>
          if t11 = 0 then some (0, m12)
          else (fI m12 9 24 (some o0)).bind fun t14 =>
            (pI m12 9 24 (some o0) (t14 + 1)).bind fun m15 =>
            (fI m15 9 6 (some o0)).bind fun t16 =>
            if t16 = 0 then fX9_readText_b79 m15
            else (fX9_readText_b14 n) o0 m15
set_option maxRecDepth 20000 in
theorem wX9_readText_b14 {r : Int32} {σ' : Mem} (hC : CallFix p m c cX9_readText 1 s args WALL RX9) (hG : GS D cy A s) (hR : 5 ≤ R.frames ∧ 180 ≤ R.locals) (Kr : KrZ p l e R s m args below meth c cX9_readText Q D cy ad A z r σ')  : ∀ (n : Nat) (o0 : Nat)  (σ : Mem) (H : Heap) (locs : List Loc) (ls : Array Slot), fX9_readText_b14 n o0 σ = some (r, σ') → MS D cy ad A s.heap z σ H locs → lv_has ls 1 [(0, va_rf (Option.map ad (some o0)))] → W p l e R s m args below meth c H locs 0 0 Q (F0 m 14 ls []) := by
  have hx := hC.1
  have hb := hC.2.1
  intro n
  induction n with
  | zero =>
    intro o0 σ H locs ls h
    cases h
  | succ n ih =>
    intro o0 σ H locs ls h hM hl
    rw [fX9_readText_b14] at h
    refine lr_aload_n hx hb dX9_readText_14 rfl (lv_at hl 0 rfl) ?_
    refine gs_X9_132 hC hG hM dX9_readText_15 ?_
    obtain ⟨k1, e_k1, h⟩ := bn h
    obtain ⟨t2, m3, e_m3, h⟩ := b2_elim h
    refine cs_X9_177 e_k1 hC hG hM (cX9_isKey_ok e_m3) ⟨by omega, by omega⟩ hl.1 (by first | exact Nat.le_of_ble_eq_true rfl | simp [va_cat, vcI, vcL, vcR]) dX9_readText_18 (fun H locs hM => ?_)
    refine lv_if_ne (tgt := 30) hx hb dX9_readText_21 (by decide) (fun c4 => ?_) (fun c4 => ?_)
    · rw [if_neg c4] at h
      refine lr_aload_n hx hb dX9_readText_30 rfl (lv_at hl 0 rfl) ?_
      obtain ⟨t5, e_t5, h⟩ := bn h
      refine gf_X9_196 hC hG hM e_t5 dX9_readText_31 ?_
      refine lv_bipush (v := 10) hx hb dX9_readText_34 (by decide) ?_
      refine lv_icmp_ne (tgt := 45) hx hb dX9_readText_36 (by decide) (fun c6 => ?_) (fun c6 => ?_)
      · rw [if_neg c6] at h
        refine lr_aload_n hx hb dX9_readText_45 rfl (lv_at hl 0 rfl) ?_
        obtain ⟨k7, e_k7, h⟩ := bn h
        obtain ⟨m8, e_m8, h⟩ := bn h
        refine cs_X9_174 e_k7 hC hG hM (cX9_go_ok e_m8) ⟨by omega, by omega⟩ hl.1 (by first | exact Nat.le_of_ble_eq_true rfl | simp [va_cat, vcI, vcL, vcR]) dX9_readText_46 (fun H locs hM => ?_)
        refine lr_aload_n hx hb dX9_readText_49 rfl (lv_at hl 0 rfl) ?_
        refine lr_aload_n hx hb dX9_readText_50 rfl (lv_at hl 0 rfl) ?_
        obtain ⟨t9, e_t9, h⟩ := bn h
        refine gf_X9_196 hC hG hM e_t9 dX9_readText_51 ?_
        obtain ⟨k10, e_k10, h⟩ := bn h
        obtain ⟨t11, m12, e_m12, h⟩ := b2_elim h
        refine cs_X9_199 e_k10 hC hG hM (cX9_readPlan_ok e_m12) ⟨by omega, by omega⟩ hl.1 (by first | exact Nat.le_of_ble_eq_true rfl | simp [va_cat, vcI, vcL, vcR]) dX9_readText_54 (fun H locs hM => ?_)
        refine lv_if_ne (tgt := 62) hx hb dX9_readText_57 (by decide) (fun c13 => ?_) (fun c13 => ?_)
        · rw [if_neg c13] at h
          refine lr_aload_n hx hb dX9_readText_62 rfl (lv_at hl 0 rfl) ?_
          refine lv_dup hx hb dX9_readText_63 (va_cat _) ?_
          obtain ⟨t14, e_t14, h⟩ := bn h
          refine gf_X9_196 hC hG hM e_t14 dX9_readText_64 ?_
          refine lv_iconst (v := 1) hx hb dX9_readText_67 (by decide) ?_
          refine lv_iadd hx hb dX9_readText_68 ?_
          obtain ⟨m15, e_m15, h⟩ := bn h
          refine pf_X9_196 hC hG hM e_m15 dX9_readText_69 (fun H locs hM => ?_)
          refine lr_aload_n hx hb dX9_readText_72 rfl (lv_at hl 0 rfl) ?_
          obtain ⟨t16, e_t16, h⟩ := bn h
          refine gf_X9_107 hC hG hM e_t16 dX9_readText_73 ?_
          refine lv_if_ne (tgt := 14) hx hb dX9_readText_76 (by decide) (fun c17 => ?_) (fun c17 => ?_)
          · rw [if_neg c17] at h
            exact ih _ _ _ _ _ h hM (lv_sub hl [0] rfl)
          · rw [if_pos c17] at h
            exact wX9_readText_b79 hC hG hR Kr _ _ _ _ h hM (lv_sub hl [] rfl)
        · rw [if_pos c13] at h
          refine lv_iconst (v := 0) hx hb dX9_readText_60 (by decide) ?_
          cases h
          exact Kr _ _ _ _ dX9_readText_61 rfl hM
      · rw [if_pos c6] at h
        refine lr_aload_n hx hb dX9_readText_39 rfl (lv_at hl 0 rfl) ?_
        refine lv_iconst (v := 4) hx hb dX9_readText_40 (by decide) ?_
        obtain ⟨k18, e_k18, h⟩ := bn h
        obtain ⟨t19, m20, e_m20, h⟩ := b2_elim h
        refine cs_X9_168 e_k18 hC hG hM (cX9_bad_ok e_m20) ⟨by omega, by omega⟩ hl.1 (by first | exact Nat.le_of_ble_eq_true rfl | simp [va_cat, vcI, vcL, vcR]) dX9_readText_41 (fun H locs hM => ?_)
        by_cases c21 : t19 = 0 ∨ t19 = 1
        · rw [if_pos c21] at h
          cases h
          exact Kr _ _ _ _ dX9_readText_44 (nar01 c21) hM
        · rw [if_neg c21] at h
          cases h
    · rw [if_pos c4] at h
      refine lr_aload_n hx hb dX9_readText_24 rfl (lv_at hl 0 rfl) ?_
      refine lv_iconst (v := 1) hx hb dX9_readText_25 (by decide) ?_
      obtain ⟨k22, e_k22, h⟩ := bn h
      obtain ⟨t23, m24, e_m24, h⟩ := b2_elim h
      refine cs_X9_168 e_k22 hC hG hM (cX9_bad_ok e_m24) ⟨by omega, by omega⟩ hl.1 (by first | exact Nat.le_of_ble_eq_true rfl | simp [va_cat, vcI, vcL, vcR]) dX9_readText_26 (fun H locs hM => ?_)
      by_cases c25 : t23 = 0 ∨ t23 = 1
      · rw [if_pos c25] at h
        cases h
        exact Kr _ _ _ _ dX9_readText_29 (nar01 c25) hM
      · rw [if_neg c25] at h
        cases h
def fX9_readText (o0 : Nat) (σ : Mem) : Option (Int32 × Mem) :=
  (pI σ 9 24 (some o0) 0).bind fun m1 =>
    (pI m1 9 4 (some o0) 0).bind fun m2 =>
    (kT m2 9 (some o0)).bind fun k3 =>
    (fX9_go k3 m2).bind fun m4 =>
    fX9_readText_b14 FU o0 m4
set_option maxRecDepth 20000 in
theorem wX9_readText {r : Int32} {σ' : Mem} (hC : CallFix p m c cX9_readText 1 s args WALL RX9) (hG : GS D cy A s) (hR : 5 ≤ R.frames ∧ 180 ≤ R.locals) (Kr : KrZ p l e R s m args below meth c cX9_readText Q D cy ad A z r σ') (o0 : Nat) (σ : Mem) (H : Heap) (locs : List Loc) (ls : Array Slot) (h : fX9_readText o0 σ = some (r, σ')) (hM : MS D cy ad A s.heap z σ H locs) (hl : lv_has ls 1 [(0, va_rf (Option.map ad (some o0)))]) : W p l e R s m args below meth c H locs 0 0 Q (F0 m 0 ls []) := by
  have hx := hC.1
  have hb := hC.2.1
  unfold fX9_readText at h
  refine lr_aload_n hx hb dX9_readText_0 rfl (lv_at hl 0 rfl) ?_
  refine lv_iconst (v := 0) hx hb dX9_readText_1 (by decide) ?_
  obtain ⟨m1, e_m1, h⟩ := bn h
  refine pf_X9_196 hC hG hM e_m1 dX9_readText_2 (fun H locs hM => ?_)
  refine lr_aload_n hx hb dX9_readText_5 rfl (lv_at hl 0 rfl) ?_
  refine lv_iconst (v := 0) hx hb dX9_readText_6 (by decide) ?_
  obtain ⟨m2, e_m2, h⟩ := bn h
  refine pf_X9_101 hC hG hM e_m2 dX9_readText_7 (fun H locs hM => ?_)
  refine lr_aload_n hx hb dX9_readText_10 rfl (lv_at hl 0 rfl) ?_
  obtain ⟨k3, e_k3, h⟩ := bn h
  obtain ⟨m4, e_m4, h⟩ := bn h
  refine cs_X9_174 e_k3 hC hG hM (cX9_go_ok e_m4) ⟨by omega, by omega⟩ hl.1 (by first | exact Nat.le_of_ble_eq_true rfl | simp [va_cat, vcI, vcL, vcR]) dX9_readText_11 (fun H locs hM => ?_)
  exact wX9_readText_b14 hC hG hR Kr FU _ _ _ _ _ h hM (lv_sub hl [0] rfl)
theorem cX9_readText_ok {l : Launch} {D : va_G} {cy : Nat → ClassId} {ad : Nat → Nat} {A : Nat → Prop} {z : Nat} {r : Int32} {σ' : Mem} {o0 : Nat} {σ : Mem} (h : fX9_readText o0 σ = some (r, σ')) : CtI l yX9_readText cX9_readText 1 (some .boolean) 5 [.ref (ad o0)] D cy ad A z σ r σ' :=
  enterZ (own := RX9) (by decide) rfl (Nat.le_of_ble_eq_true rfl) rfl (fun p e s m below meth c Q ls hC hG hM Kr hl => wX9_readText hC hG ⟨Nat.le_refl _, Nat.le_refl _⟩ Kr _ _ _ _ _ h hM hl)
/-! X8_best (III)J -/
def fX8_best_b77  (x4 : Int64)  (σ : Mem) : Option (Int64 × Mem) :=
  some (x4, σ)
set_option maxRecDepth 20000 in
theorem wX8_best_b77 {r : Int64} {σ' : Mem} (hC : CallFix p m c cX8_best 6 s args WALL RX8) (hG : GS D cy A s) (hR : 6 ≤ R.frames ∧ 216 ≤ R.locals) (Kr : KrL p l e R s m args below meth c cX8_best Q D cy ad A z r σ')  (x4 : Int64)  (σ : Mem) (H : Heap) (locs : List Loc) (ls : Array Slot) (h : fX8_best_b77 x4 σ = some (r, σ')) (hM : MS D cy ad A s.heap z σ H locs) (hl : lv_has ls 6 [(4, .long x4)]) : W p l e R s m args below meth c H locs 0 0 Q (F0 m 77 ls []) := by
  have hx := hC.1
  have hb := hC.2.1
  unfold fX8_best_b77 at h
  refine lv_lload hx hb dX8_best_77 (lv_at hl 0 rfl) ?_
  obtain ⟨rfl, rfl⟩ := Prod.mk.inj (Option.some.inj h)
  exact Kr _ _ _ _ dX8_best_79 hM
def fX8_best_b25    (σ : Mem) : Option (Int64 × Mem) :=
  some ((-1), σ)
set_option maxRecDepth 20000 in
theorem wX8_best_b25 {r : Int64} {σ' : Mem} (hC : CallFix p m c cX8_best 6 s args WALL RX8) (hG : GS D cy A s) (hR : 6 ≤ R.frames ∧ 216 ≤ R.locals) (Kr : KrL p l e R s m args below meth c cX8_best Q D cy ad A z r σ')    (σ : Mem) (H : Heap) (locs : List Loc) (ls : Array Slot) (h : fX8_best_b25  σ = some (r, σ')) (hM : MS D cy ad A s.heap z σ H locs) (hl : lv_has ls 6 []) : W p l e R s m args below meth c H locs 0 0 Q (F0 m 25 ls []) := by
  have hx := hC.1
  have hb := hC.2.1
  unfold fX8_best_b25 at h
  refine lv_ldc2 (v := (-1)) hx hb hC.2.2.2.1 (hC.2.2.2.2 _ wk_X8_146) dX8_best_25 ?_
  obtain ⟨rfl, rfl⟩ := Prod.mk.inj (Option.some.inj h)
  exact Kr _ _ _ _ dX8_best_28 hM
def fX8_best (o0 : Nat) (x1 : Int32) (x2 : Int32) (x3 : Int32) (σ : Mem) : Option (Int64 × Mem) :=
  b2 (fX8_isWithin x1 1 15 σ) fun t1 m2 =>
    if t1 = 0 then fX8_best_b25 m2
    else if x2 < 0 then fX8_best_b25 m2
      else if x3 ≤ x2 then fX8_best_b25 m2
        else if x3 ≤ 24 then (fR m2 8 3 (some o0)).bind fun t7 =>
            (fR m2 8 8 (some o0)).bind fun t8 =>
            (fR m2 8 2 (some o0)).bind fun t9 =>
            (fI m2 8 9 (some o0)).bind fun t10 =>
            (kT m2 5 t7).bind fun k11 =>
            b2 (fX5_search k11 t8 t9 x1 x2 x3 t10 m2) fun t12 m13 =>
            if t12 = (-1) then fX8_best_b77 t12 m13
            else (kT m13 8 (some o0)).bind fun k15 =>
              (fX8_forgetRow k15 m13).bind fun m16 =>
              (fR m16 8 3 (some o0)).bind fun t17 =>
              (fR m16 8 7 (some o0)).bind fun t18 =>
              (kT m16 5 t17).bind fun k19 =>
              (fX5_writeRow k19 t18 m16).bind fun m20 =>
              fX8_best_b77 t12 m20
          else fX8_best_b25 m2
set_option maxRecDepth 20000 in
theorem wX8_best {r : Int64} {σ' : Mem} (hC : CallFix p m c cX8_best 6 s args WALL RX8) (hG : GS D cy A s) (hR : 6 ≤ R.frames ∧ 216 ≤ R.locals) (Kr : KrL p l e R s m args below meth c cX8_best Q D cy ad A z r σ') (o0 : Nat) (x1 : Int32) (x2 : Int32) (x3 : Int32) (σ : Mem) (H : Heap) (locs : List Loc) (ls : Array Slot) (h : fX8_best o0 x1 x2 x3 σ = some (r, σ')) (hM : MS D cy ad A s.heap z σ H locs) (hl : lv_has ls 6 [(0, va_rf (Option.map ad (some o0))), (1, .int x1), (2, .int x2), (3, .int x3)]) : W p l e R s m args below meth c H locs 0 0 Q (F0 m 0 ls []) := by
  have hx := hC.1
  have hb := hC.2.1
  unfold fX8_best at h
  refine lv_iload_n hx hb dX8_best_0 rfl (lv_at hl 1 rfl) ?_
  refine lv_iconst (v := 1) hx hb dX8_best_1 (by decide) ?_
  refine lv_bipush (v := 15) hx hb dX8_best_2 (by decide) ?_
  obtain ⟨t1, m2, e_m2, h⟩ := b2_elim h
  refine cs_X8_148 hC hG hM (cX8_isWithin_ok e_m2) ⟨by omega, by omega⟩ hl.1 (by first | exact Nat.le_of_ble_eq_true rfl | simp [va_cat, vcI, vcL, vcR]) dX8_best_4 (fun H locs hM => ?_)
  refine lv_if_eq (tgt := 25) hx hb dX8_best_7 (by decide) (fun c3 => ?_) (fun c3 => ?_)
  · rw [if_pos c3] at h
    exact wX8_best_b25 hC hG hR Kr _ _ _ _ h hM (lv_sub hl [] rfl)
  · rw [if_neg c3] at h
    refine lv_iload_n hx hb dX8_best_10 rfl (lv_at hl 2 rfl) ?_
    refine lv_if_lt (tgt := 25) hx hb dX8_best_11 (by decide) (fun c4 => ?_) (fun c4 => ?_)
    · rw [if_pos c4] at h
      exact wX8_best_b25 hC hG hR Kr _ _ _ _ h hM (lv_sub hl [] rfl)
    · rw [if_neg c4] at h
      refine lv_iload_n hx hb dX8_best_14 rfl (lv_at hl 2 rfl) ?_
      refine lv_iload_n hx hb dX8_best_15 rfl (lv_at hl 3 rfl) ?_
      refine lv_icmp_ge (tgt := 25) hx hb dX8_best_16 (by decide) (fun c5 => ?_) (fun c5 => ?_)
      · rw [if_pos c5] at h
        exact wX8_best_b25 hC hG hR Kr _ _ _ _ h hM (lv_sub hl [] rfl)
      · rw [if_neg c5] at h
        refine lv_iload_n hx hb dX8_best_19 rfl (lv_at hl 3 rfl) ?_
        refine lv_bipush (v := 24) hx hb dX8_best_20 (by decide) ?_
        refine lv_icmp_le (tgt := 29) hx hb dX8_best_22 (by decide) (fun c6 => ?_) (fun c6 => ?_)
        · rw [if_pos c6] at h
          refine lr_aload_n hx hb dX8_best_29 rfl (lv_at hl 0 rfl) ?_
          obtain ⟨t7, e_t7, h⟩ := bn h
          refine gf_X8_35 hC hG hM e_t7 dX8_best_30 ?_
          refine lr_aload_n hx hb dX8_best_33 rfl (lv_at hl 0 rfl) ?_
          obtain ⟨t8, e_t8, h⟩ := bn h
          refine gf_X8_59 hC hG hM e_t8 dX8_best_34 ?_
          refine lr_aload_n hx hb dX8_best_37 rfl (lv_at hl 0 rfl) ?_
          obtain ⟨t9, e_t9, h⟩ := bn h
          refine gf_X8_28 hC hG hM e_t9 dX8_best_38 ?_
          refine lv_iload_n hx hb dX8_best_41 rfl (lv_at hl 1 rfl) ?_
          refine lv_iload_n hx hb dX8_best_42 rfl (lv_at hl 2 rfl) ?_
          refine lv_iload_n hx hb dX8_best_43 rfl (lv_at hl 3 rfl) ?_
          refine lr_aload_n hx hb dX8_best_44 rfl (lv_at hl 0 rfl) ?_
          obtain ⟨t10, e_t10, h⟩ := bn h
          refine gf_X8_139 hC hG hM e_t10 dX8_best_45 ?_
          obtain ⟨k11, e_k11, h⟩ := bn h
          obtain ⟨t12, m13, e_m13, h⟩ := b2_elim h
          refine cs_X8_152 e_k11 hC hG hM (cX5_search_ok e_m13) ⟨by omega, by omega⟩ hl.1 (by first | exact Nat.le_of_ble_eq_true rfl | simp [va_cat, vcI, vcL, vcR]) dX8_best_48 (fun H locs hM => ?_)
          refine lv_lstore (lv' := [(4, .long t12), (0, va_rf (Option.map ad (some o0))), (1, .int x1), (2, .int x2), (3, .int x3)]) hx hb dX8_best_51 hl (by decide) (by first | rfl | simp [va_cat]) (fun ls hl => ?_)
          refine lv_lload hx hb dX8_best_53 (lv_at hl 0 rfl) ?_
          refine lv_ldc2 (v := (-1)) hx hb hC.2.2.2.1 (hC.2.2.2.2 _ wk_X8_146) dX8_best_55 ?_
          refine lc_eq (tgt := 77) hx hb dX8_best_58 dX8_best_59 (by decide) (fun c14 => ?_) (fun c14 => ?_)
          · rw [if_pos c14] at h
            exact wX8_best_b77 hC hG hR Kr _ _ _ _ _ h hM (lv_sub hl [0] rfl)
          · rw [if_neg c14] at h
            refine lr_aload_n hx hb dX8_best_62 rfl (lv_at hl 1 rfl) ?_
            obtain ⟨k15, e_k15, h⟩ := bn h
            obtain ⟨m16, e_m16, h⟩ := bn h
            refine cs_X8_63 e_k15 hC hG hM (cX8_forgetRow_ok e_m16) ⟨by omega, by omega⟩ hl.1 (by first | exact Nat.le_of_ble_eq_true rfl | simp [va_cat, vcI, vcL, vcR]) dX8_best_63 (fun H locs hM => ?_)
            refine lr_aload_n hx hb dX8_best_66 rfl (lv_at hl 1 rfl) ?_
            obtain ⟨t17, e_t17, h⟩ := bn h
            refine gf_X8_35 hC hG hM e_t17 dX8_best_67 ?_
            refine lr_aload_n hx hb dX8_best_70 rfl (lv_at hl 1 rfl) ?_
            obtain ⟨t18, e_t18, h⟩ := bn h
            refine gf_X8_53 hC hG hM e_t18 dX8_best_71 ?_
            obtain ⟨k19, e_k19, h⟩ := bn h
            obtain ⟨m20, e_m20, h⟩ := bn h
            refine cs_X8_156 e_k19 hC hG hM (cX5_writeRow_ok e_m20) ⟨by omega, by omega⟩ hl.1 (by first | exact Nat.le_of_ble_eq_true rfl | simp [va_cat, vcI, vcL, vcR]) dX8_best_74 (fun H locs hM => ?_)
            exact wX8_best_b77 hC hG hR Kr _ _ _ _ _ h hM (lv_sub hl [0] rfl)
        · rw [if_neg c6] at h
          exact wX8_best_b25 hC hG hR Kr _ _ _ _ h hM (lv_sub hl [] rfl)
theorem cX8_best_ok {l : Launch} {D : va_G} {cy : Nat → ClassId} {ad : Nat → Nat} {A : Nat → Prop} {z : Nat} {r : Int64} {σ' : Mem} {o0 : Nat} {x1 : Int32} {x2 : Int32} {x3 : Int32} {σ : Mem} (h : fX8_best o0 x1 x2 x3 σ = some (r, σ')) : CtL l yX8_best cX8_best 6 (some .long) 6 [.ref (ad o0), .int x1, .int x2, .int x3] D cy ad A z σ r σ' :=
  enterL (own := RX8) (by decide) rfl (Nat.le_of_ble_eq_true rfl) rfl (fun p e s m below meth c Q ls hC hG hM Kr hl => wX8_best hC hG ⟨Nat.le_refl _, Nat.le_refl _⟩ Kr _ _ _ _ _ _ _ _ h hM hl)
/-! X8_bills ()J -/
def fX8_bills_b45  (o0 : Nat)  (σ : Mem) : Option (Int64 × Mem) :=
  (fR σ 8 4 (some o0)).bind fun t1 =>
    (kT σ 1 t1).bind fun k2 =>
    b2 (fX1_part k2 σ) fun t3 m4 =>
    some (t3, m4)
set_option maxRecDepth 20000 in
theorem wX8_bills_b45 {r : Int64} {σ' : Mem} (hC : CallFix p m c cX8_bills 2 s args WALL RX8) (hG : GS D cy A s) (hR : 6 ≤ R.frames ∧ 216 ≤ R.locals) (Kr : KrL p l e R s m args below meth c cX8_bills Q D cy ad A z r σ')  (o0 : Nat)  (σ : Mem) (H : Heap) (locs : List Loc) (ls : Array Slot) (h : fX8_bills_b45 o0 σ = some (r, σ')) (hM : MS D cy ad A s.heap z σ H locs) (hl : lv_has ls 2 [(0, va_rf (Option.map ad (some o0)))]) : W p l e R s m args below meth c H locs 0 0 Q (F0 m 45 ls []) := by
  have hx := hC.1
  have hb := hC.2.1
  unfold fX8_bills_b45 at h
  refine lr_aload_n hx hb dX8_bills_45 rfl (lv_at hl 0 rfl) ?_
  obtain ⟨t1, e_t1, h⟩ := bn h
  refine gf_X8_42 hC hG hM e_t1 dX8_bills_46 ?_
  obtain ⟨k2, e_k2, h⟩ := bn h
  obtain ⟨t3, m4, e_m4, h⟩ := b2_elim h
  refine cs_X8_164 e_k2 hC hG hM (cX1_part_ok e_m4) ⟨by omega, by omega⟩ hl.1 (by first | exact Nat.le_of_ble_eq_true rfl | simp [va_cat, vcI, vcL, vcR]) dX8_bills_49 (fun H locs hM => ?_)
  obtain ⟨rfl, rfl⟩ := Prod.mk.inj (Option.some.inj h)
  exact Kr _ _ _ _ dX8_bills_52 hM
def fX8_bills_b2  : Nat → Nat → Int32 → Mem → Option (Int64 × Mem)
  | 0, _, _, _ => none
  | n + 1, o0, x1, σ =>
    if 15 < x1 then fX8_bills_b45 o0 σ
      else (fR σ 8 4 (some o0)).bind fun t2 =>
        (fR σ 8 3 (some o0)).bind fun t3 =>
        (fR σ 8 8 (some o0)).bind fun t4 =>
        (fR σ 8 2 (some o0)).bind fun t5 =>
        (fI σ 8 9 (some o0)).bind fun t6 =>
        (kT σ 5 t3).bind fun k7 =>
        b2 (fX5_search k7 t4 t5 x1 0 24 t6 σ) fun t8 m9 =>
        (kT m9 1 t2).bind fun k10 =>
        (fX1_tellBest k10 x1 t8 m9).bind fun m11 =>
        bd (x1 + 1) fun t12 =>
        (fX8_bills_b2 n) o0 t12 m11
set_option maxRecDepth 20000 in
theorem wX8_bills_b2 {r : Int64} {σ' : Mem} (hC : CallFix p m c cX8_bills 2 s args WALL RX8) (hG : GS D cy A s) (hR : 6 ≤ R.frames ∧ 216 ≤ R.locals) (Kr : KrL p l e R s m args below meth c cX8_bills Q D cy ad A z r σ')  : ∀ (n : Nat) (o0 : Nat) (x1 : Int32)  (σ : Mem) (H : Heap) (locs : List Loc) (ls : Array Slot), fX8_bills_b2 n o0 x1 σ = some (r, σ') → MS D cy ad A s.heap z σ H locs → lv_has ls 2 [(0, va_rf (Option.map ad (some o0))), (1, .int x1)] → W p l e R s m args below meth c H locs 0 0 Q (F0 m 2 ls []) := by
  have hx := hC.1
  have hb := hC.2.1
  intro n
  induction n with
  | zero =>
    intro o0 x1 σ H locs ls h
    cases h
  | succ n ih =>
    intro o0 x1 σ H locs ls h hM hl
    rw [fX8_bills_b2] at h
    refine lv_iload_n hx hb dX8_bills_2 rfl (lv_at hl 1 rfl) ?_
    refine lv_bipush (v := 15) hx hb dX8_bills_3 (by decide) ?_
    refine lv_icmp_gt (tgt := 45) hx hb dX8_bills_5 (by decide) (fun c1 => ?_) (fun c1 => ?_)
    · rw [if_pos c1] at h
      exact wX8_bills_b45 hC hG hR Kr _ _ _ _ _ h hM (lv_sub hl [0] rfl)
    · rw [if_neg c1] at h
      refine lr_aload_n hx hb dX8_bills_8 rfl (lv_at hl 0 rfl) ?_
      obtain ⟨t2, e_t2, h⟩ := bn h
      refine gf_X8_42 hC hG hM e_t2 dX8_bills_9 ?_
      refine lv_iload_n hx hb dX8_bills_12 rfl (lv_at hl 1 rfl) ?_
      refine lr_aload_n hx hb dX8_bills_13 rfl (lv_at hl 0 rfl) ?_
      obtain ⟨t3, e_t3, h⟩ := bn h
      refine gf_X8_35 hC hG hM e_t3 dX8_bills_14 ?_
      refine lr_aload_n hx hb dX8_bills_17 rfl (lv_at hl 0 rfl) ?_
      obtain ⟨t4, e_t4, h⟩ := bn h
      refine gf_X8_59 hC hG hM e_t4 dX8_bills_18 ?_
      refine lr_aload_n hx hb dX8_bills_21 rfl (lv_at hl 0 rfl) ?_
      obtain ⟨t5, e_t5, h⟩ := bn h
      refine gf_X8_28 hC hG hM e_t5 dX8_bills_22 ?_
      refine lv_iload_n hx hb dX8_bills_25 rfl (lv_at hl 1 rfl) ?_
      refine lv_iconst (v := 0) hx hb dX8_bills_26 (by decide) ?_
      refine lv_bipush (v := 24) hx hb dX8_bills_27 (by decide) ?_
      refine lr_aload_n hx hb dX8_bills_29 rfl (lv_at hl 0 rfl) ?_
      obtain ⟨t6, e_t6, h⟩ := bn h
      refine gf_X8_139 hC hG hM e_t6 dX8_bills_30 ?_
      obtain ⟨k7, e_k7, h⟩ := bn h
      obtain ⟨t8, m9, e_m9, h⟩ := b2_elim h
      refine cs_X8_152 e_k7 hC hG hM (cX5_search_ok e_m9) ⟨by omega, by omega⟩ hl.1 (by first | exact Nat.le_of_ble_eq_true rfl | simp [va_cat, vcI, vcL, vcR]) dX8_bills_33 (fun H locs hM => ?_)
      obtain ⟨k10, e_k10, h⟩ := bn h
      obtain ⟨m11, e_m11, h⟩ := bn h
      refine cs_X8_160 e_k10 hC hG hM (cX1_tellBest_ok e_m11) ⟨by omega, by omega⟩ hl.1 (by first | exact Nat.le_of_ble_eq_true rfl | simp [va_cat, vcI, vcL, vcR]) dX8_bills_36 (fun H locs hM => ?_)
      obtain ⟨t12, e_t12, h⟩ := bd_elim h
      refine lv_iinc (v := t12) (lv' := [(1, .int t12), (0, va_rf (Option.map ad (some o0)))]) hx hb dX8_bills_39 hl (k := 1) rfl (by rw [e_t12]; rfl) (by decide) (by first | rfl | simp [va_cat]) (fun ls hl => ?_)
      refine lv_goto (tgt := 2) hx hb dX8_bills_42 (by decide) ?_
      exact ih _ _ _ _ _ _ h hM (lv_sub hl [1, 0] rfl)
def fX8_bills (o0 : Nat) (σ : Mem) : Option (Int64 × Mem) :=
  fX8_bills_b2 FU o0 1 σ
set_option maxRecDepth 20000 in
theorem wX8_bills {r : Int64} {σ' : Mem} (hC : CallFix p m c cX8_bills 2 s args WALL RX8) (hG : GS D cy A s) (hR : 6 ≤ R.frames ∧ 216 ≤ R.locals) (Kr : KrL p l e R s m args below meth c cX8_bills Q D cy ad A z r σ') (o0 : Nat) (σ : Mem) (H : Heap) (locs : List Loc) (ls : Array Slot) (h : fX8_bills o0 σ = some (r, σ')) (hM : MS D cy ad A s.heap z σ H locs) (hl : lv_has ls 2 [(0, va_rf (Option.map ad (some o0)))]) : W p l e R s m args below meth c H locs 0 0 Q (F0 m 0 ls []) := by
  have hx := hC.1
  have hb := hC.2.1
  unfold fX8_bills at h
  refine lv_iconst (v := 1) hx hb dX8_bills_0 (by decide) ?_
  refine lv_istore_n (lv' := [(1, .int 1), (0, va_rf (Option.map ad (some o0)))]) hx hb dX8_bills_1 rfl hl (by decide) (by first | rfl | simp [va_cat]) (fun ls hl => ?_)
  exact wX8_bills_b2 hC hG hR Kr FU _ _ _ _ _ _ h hM (lv_sub hl [1, 0] rfl)
theorem cX8_bills_ok {l : Launch} {D : va_G} {cy : Nat → ClassId} {ad : Nat → Nat} {A : Nat → Prop} {z : Nat} {r : Int64} {σ' : Mem} {o0 : Nat} {σ : Mem} (h : fX8_bills o0 σ = some (r, σ')) : CtL l yX8_bills cX8_bills 2 (some .long) 6 [.ref (ad o0)] D cy ad A z σ r σ' :=
  enterL (own := RX8) (by decide) rfl (Nat.le_of_ble_eq_true rfl) rfl (fun p e s m below meth c Q ls hC hG hM Kr hl => wX8_bills hC hG ⟨Nat.le_refl _, Nat.le_refl _⟩ Kr _ _ _ _ _ h hM hl)
/-! X8_plans ()I -/
def fX8_plans (o0 : Nat) (σ : Mem) : Option (Int32 × Mem) :=
  (fR σ 8 1 (some o0)).bind fun t1 =>
    (kT σ 4 t1).bind fun k2 =>
    b2 (fX4_readText k2 σ) fun t3 m4 =>
    (fR m4 8 0 (some o0)).bind fun t5 =>
    (pI m4 6 1 t5 0).bind fun m6 =>
    if t3 = 0 then (fR m6 8 1 (some o0)).bind fun t21 =>
      (fI m6 4 5 t21).bind fun t22 =>
      some ((-1) - t22, m6)
    else (fR m6 8 1 (some o0)).bind fun t8 =>
      (fR m6 8 8 (some o0)).bind fun t9 =>
      (kT m6 4 t8).bind fun k10 =>
      b2 (fX4_exchange k10 t9 m6) fun t11 m12 =>
      (pR m12 8 8 (some o0) t11).bind fun m13 =>
      (kT m13 8 (some o0)).bind fun k14 =>
      (fX8_forgetRow k14 m13).bind fun m15 =>
      (fR m15 8 4 (some o0)).bind fun t16 =>
      (kT m15 1 t16).bind fun k17 =>
      (fX1_forget k17 m15).bind fun m18 =>
      (fR m18 8 8 (some o0)).bind fun t19 =>
      (fI m18 3 1 t19).bind fun t20 =>
      some (t20, m18)
set_option maxRecDepth 20000 in
theorem wX8_plans {r : Int32} {σ' : Mem} (hC : CallFix p m c cX8_plans 2 s args WALL RX8) (hG : GS D cy A s) (hR : 6 ≤ R.frames ∧ 216 ≤ R.locals) (Kr : KrI p l e R s m args below meth c cX8_plans Q D cy ad A z r σ') (o0 : Nat) (σ : Mem) (H : Heap) (locs : List Loc) (ls : Array Slot) (h : fX8_plans o0 σ = some (r, σ')) (hM : MS D cy ad A s.heap z σ H locs) (hl : lv_has ls 2 [(0, va_rf (Option.map ad (some o0)))]) : W p l e R s m args below meth c H locs 0 0 Q (F0 m 0 ls []) := by
  have hx := hC.1
  have hb := hC.2.1
  unfold fX8_plans at h
  refine lr_aload_n hx hb dX8_plans_0 rfl (lv_at hl 0 rfl) ?_
  obtain ⟨t1, e_t1, h⟩ := bn h
  refine gf_X8_21 hC hG hM e_t1 dX8_plans_1 ?_
  obtain ⟨k2, e_k2, h⟩ := bn h
  obtain ⟨t3, m4, e_m4, h⟩ := b2_elim h
  refine cs_X8_74 e_k2 hC hG hM (cX4_readText_ok e_m4) ⟨by omega, by omega⟩ hl.1 (by first | exact Nat.le_of_ble_eq_true rfl | simp [va_cat, vcI, vcL, vcR]) dX8_plans_4 (fun H locs hM => ?_)
  refine lv_istore_n (lv' := [(1, .int t3), (0, va_rf (Option.map ad (some o0)))]) hx hb dX8_plans_7 rfl hl (by decide) (by first | rfl | simp [va_cat]) (fun ls hl => ?_)
  refine lr_aload_n hx hb dX8_plans_8 rfl (lv_at hl 1 rfl) ?_
  obtain ⟨t5, e_t5, h⟩ := bn h
  refine gf_X8_10 hC hG hM e_t5 dX8_plans_9 ?_
  refine lv_iconst (v := 0) hx hb dX8_plans_12 (by decide) ?_
  obtain ⟨m6, e_m6, h⟩ := bn h
  refine pf_X8_66 hC hG hM e_m6 dX8_plans_13 (fun H locs hM => ?_)
  refine lv_iload_n hx hb dX8_plans_16 rfl (lv_at hl 0 rfl) ?_
  refine lv_if_ne (tgt := 30) hx hb dX8_plans_17 (by decide) (fun c7 => ?_) (fun c7 => ?_)
  · rw [if_neg c7] at h
    refine lr_aload_n hx hb dX8_plans_30 rfl (lv_at hl 1 rfl) ?_
    refine lr_aload_n hx hb dX8_plans_31 rfl (lv_at hl 1 rfl) ?_
    obtain ⟨t8, e_t8, h⟩ := bn h
    refine gf_X8_21 hC hG hM e_t8 dX8_plans_32 ?_
    refine lr_aload_n hx hb dX8_plans_35 rfl (lv_at hl 1 rfl) ?_
    obtain ⟨t9, e_t9, h⟩ := bn h
    refine gf_X8_59 hC hG hM e_t9 dX8_plans_36 ?_
    obtain ⟨k10, e_k10, h⟩ := bn h
    obtain ⟨t11, m12, e_m12, h⟩ := b2_elim h
    refine cs_X8_81 e_k10 hC hG hM (cX4_exchange_ok e_m12) ⟨by omega, by omega⟩ hl.1 (by first | exact Nat.le_of_ble_eq_true rfl | simp [va_cat, vcI, vcL, vcR]) dX8_plans_39 (fun H locs hM => ?_)
    obtain ⟨m13, e_m13, h⟩ := bn h
    refine pf_X8_59 hC hG hM e_m13 dX8_plans_42 (fun H locs hM => ?_)
    refine lr_aload_n hx hb dX8_plans_45 rfl (lv_at hl 1 rfl) ?_
    obtain ⟨k14, e_k14, h⟩ := bn h
    obtain ⟨m15, e_m15, h⟩ := bn h
    refine cs_X8_63 e_k14 hC hG hM (cX8_forgetRow_ok e_m15) ⟨by omega, by omega⟩ hl.1 (by first | exact Nat.le_of_ble_eq_true rfl | simp [va_cat, vcI, vcL, vcR]) dX8_plans_46 (fun H locs hM => ?_)
    refine lr_aload_n hx hb dX8_plans_49 rfl (lv_at hl 1 rfl) ?_
    obtain ⟨t16, e_t16, h⟩ := bn h
    refine gf_X8_42 hC hG hM e_t16 dX8_plans_50 ?_
    obtain ⟨k17, e_k17, h⟩ := bn h
    obtain ⟨m18, e_m18, h⟩ := bn h
    refine cs_X8_85 e_k17 hC hG hM (cX1_forget_ok e_m18) ⟨by omega, by omega⟩ hl.1 (by first | exact Nat.le_of_ble_eq_true rfl | simp [va_cat, vcI, vcL, vcR]) dX8_plans_53 (fun H locs hM => ?_)
    refine lr_aload_n hx hb dX8_plans_56 rfl (lv_at hl 1 rfl) ?_
    obtain ⟨t19, e_t19, h⟩ := bn h
    refine gf_X8_59 hC hG hM e_t19 dX8_plans_57 ?_
    obtain ⟨t20, e_t20, h⟩ := bn h
    refine gf_X8_88 hC hG hM e_t20 dX8_plans_60 ?_
    obtain ⟨rfl, rfl⟩ := Prod.mk.inj (Option.some.inj h)
    exact Kr _ _ _ _ dX8_plans_63 hM
  · rw [if_pos c7] at h
    refine lv_iconst (v := (-1)) hx hb dX8_plans_20 (by decide) ?_
    refine lr_aload_n hx hb dX8_plans_21 rfl (lv_at hl 1 rfl) ?_
    obtain ⟨t21, e_t21, h⟩ := bn h
    refine gf_X8_21 hC hG hM e_t21 dX8_plans_22 ?_
    obtain ⟨t22, e_t22, h⟩ := bn h
    refine gf_X8_78 hC hG hM e_t22 dX8_plans_25 ?_
    refine lv_isub hx hb dX8_plans_28 ?_
    obtain ⟨rfl, rfl⟩ := Prod.mk.inj (Option.some.inj h)
    exact Kr _ _ _ _ dX8_plans_29 hM
theorem cX8_plans_ok {l : Launch} {D : va_G} {cy : Nat → ClassId} {ad : Nat → Nat} {A : Nat → Prop} {z : Nat} {r : Int32} {σ' : Mem} {o0 : Nat} {σ : Mem} (h : fX8_plans o0 σ = some (r, σ')) : CtI l yX8_plans cX8_plans 2 (some .int) 6 [.ref (ad o0)] D cy ad A z σ r σ' :=
  enterI (own := RX8) (by decide) rfl (Nat.le_of_ble_eq_true rfl) rfl (fun p e s m below meth c Q ls hC hG hM Kr hl => wX8_plans hC hG ⟨Nat.le_refl _, Nat.le_refl _⟩ Kr _ _ _ _ _ h hM hl)
end WK
