section WK
variable {p : Program} {l : Launch} {e : Env} {R : Room} {s : State} {m : MethodId} {args : Array Value} {below : List Frame} {meth : Method} {c : Code} {Q : State → Prop}
variable {D : va_G} {cy : Nat → ClassId} {ad : Nat → Nat} {A : Nat → Prop} {z : Nat}
/-! X9_go ()V -/
def fX9_go_b354   (y0 : Int32) (y1 : Option Nat) (σ : Mem) : Option (Mem) :=
  (pI σ 9 6 y1 y0).bind fun m1 =>
    some m1
set_option maxRecDepth 20000 in
theorem wX9_go_b354 {σ' : Mem} (hC : CallFix p m c cX9_go 5 s args WALL RX9) (hG : GS D cy A s) (hR : 1 ≤ R.frames ∧ 36 ≤ R.locals) (Kr : KrV p l e R s m args below meth c cX9_go Q D cy ad A z () σ')   (y0 : Int32) (y1 : Option Nat) (σ : Mem) (H : Heap) (locs : List Loc) (ls : Array Slot) (h : fX9_go_b354 y0 y1 σ = some σ') (hM : MS D cy ad A s.heap z σ H locs) (hl : lv_has ls 5 []) : W p l e R s m args below meth c H locs 0 0 Q (F0 m 354 ls [.int y0, va_rf (Option.map ad y1)]) := by
  have hx := hC.1
  have hb := hC.2.1
  unfold fX9_go_b354 at h
  obtain ⟨m1, e_m1, h⟩ := bn h
  refine pf_X9_107 hC hG hM e_m1 dX9_go_354 (fun H locs hM => ?_)
  cases h
  exact Kr _ _ _ _ dX9_go_357 hM
def fX9_go_b341   (y0 : Option Nat) (σ : Mem) : Option (Mem) :=
  fX9_go_b354 1 y0 σ
set_option maxRecDepth 20000 in
theorem wX9_go_b341 {σ' : Mem} (hC : CallFix p m c cX9_go 5 s args WALL RX9) (hG : GS D cy A s) (hR : 1 ≤ R.frames ∧ 36 ≤ R.locals) (Kr : KrV p l e R s m args below meth c cX9_go Q D cy ad A z () σ')   (y0 : Option Nat) (σ : Mem) (H : Heap) (locs : List Loc) (ls : Array Slot) (h : fX9_go_b341 y0 σ = some σ') (hM : MS D cy ad A s.heap z σ H locs) (hl : lv_has ls 5 []) : W p l e R s m args below meth c H locs 0 0 Q (F0 m 341 ls [va_rf (Option.map ad y0)]) := by
  have hx := hC.1
  have hb := hC.2.1
  unfold fX9_go_b341 at h
  refine lv_iconst (v := 1) hx hb dX9_go_341 (by decide) ?_
  refine lv_goto (tgt := 354) hx hb dX9_go_342 (by decide) ?_
  exact wX9_go_b354 hC hG hR Kr _ _ _ _ _ _ h hM (lv_sub hl [] rfl)
def fX9_go_b338  (x2 : Int32) (y0 : Int32) (y1 : Int32) (y2 : Option Nat) (σ : Mem) : Option (Mem) :=
  if y1 ≤ y0 then if x2 = 0 then fX9_go_b354 3 y2 σ
      else fX9_go_b354 2 y2 σ
    else fX9_go_b341 y2 σ
set_option maxRecDepth 20000 in
theorem wX9_go_b338 {σ' : Mem} (hC : CallFix p m c cX9_go 5 s args WALL RX9) (hG : GS D cy A s) (hR : 1 ≤ R.frames ∧ 36 ≤ R.locals) (Kr : KrV p l e R s m args below meth c cX9_go Q D cy ad A z () σ')  (x2 : Int32) (y0 : Int32) (y1 : Int32) (y2 : Option Nat) (σ : Mem) (H : Heap) (locs : List Loc) (ls : Array Slot) (h : fX9_go_b338 x2 y0 y1 y2 σ = some σ') (hM : MS D cy ad A s.heap z σ H locs) (hl : lv_has ls 5 [(2, .int x2)]) : W p l e R s m args below meth c H locs 0 0 Q (F0 m 338 ls [.int y0, .int y1, va_rf (Option.map ad y2)]) := by
  have hx := hC.1
  have hb := hC.2.1
  unfold fX9_go_b338 at h
  refine lv_icmp_le (tgt := 345) hx hb dX9_go_338 (by decide) (fun c1 => ?_) (fun c1 => ?_)
  · rw [if_pos c1] at h
    refine lv_iload_n hx hb dX9_go_345 rfl (lv_at hl 0 rfl) ?_
    refine lv_if_eq (tgt := 353) hx hb dX9_go_346 (by decide) (fun c2 => ?_) (fun c2 => ?_)
    · rw [if_pos c2] at h
      refine lv_iconst (v := 3) hx hb dX9_go_353 (by decide) ?_
      exact wX9_go_b354 hC hG hR Kr _ _ _ _ _ _ h hM (lv_sub hl [] rfl)
    · rw [if_neg c2] at h
      refine lv_iconst (v := 2) hx hb dX9_go_349 (by decide) ?_
      refine lv_goto (tgt := 354) hx hb dX9_go_350 (by decide) ?_
      exact wX9_go_b354 hC hG hR Kr _ _ _ _ _ _ h hM (lv_sub hl [] rfl)
  · rw [if_neg c1] at h
    exact wX9_go_b341 hC hG hR Kr _ _ _ _ _ h hM (lv_sub hl [] rfl)
def fX9_go_b313  (o0 : Nat) (x2 : Int32) (x3 : Int32)  (σ : Mem) : Option (Mem) :=
  if x3 = 0 then fX9_go_b341 (some o0) σ
    else (fI σ 9 4 (some o0)).bind fun t2 =>
      (fI σ 9 5 (some o0)).bind fun t3 =>
      if x2 = 0 then fX9_go_b338 x2 6 (t2 - t3) (some o0) σ
      else fX9_go_b338 x2 8 (t2 - t3) (some o0) σ
set_option maxRecDepth 20000 in
theorem wX9_go_b313 {σ' : Mem} (hC : CallFix p m c cX9_go 5 s args WALL RX9) (hG : GS D cy A s) (hR : 1 ≤ R.frames ∧ 36 ≤ R.locals) (Kr : KrV p l e R s m args below meth c cX9_go Q D cy ad A z () σ')  (o0 : Nat) (x2 : Int32) (x3 : Int32)  (σ : Mem) (H : Heap) (locs : List Loc) (ls : Array Slot) (h : fX9_go_b313 o0 x2 x3 σ = some σ') (hM : MS D cy ad A s.heap z σ H locs) (hl : lv_has ls 5 [(0, va_rf (Option.map ad (some o0))), (2, .int x2), (3, .int x3)]) : W p l e R s m args below meth c H locs 0 0 Q (F0 m 313 ls []) := by
  have hx := hC.1
  have hb := hC.2.1
  unfold fX9_go_b313 at h
  refine lr_aload_n hx hb dX9_go_313 rfl (lv_at hl 0 rfl) ?_
  refine lv_iload_n hx hb dX9_go_314 rfl (lv_at hl 2 rfl) ?_
  refine lv_if_eq (tgt := 341) hx hb dX9_go_315 (by decide) (fun c1 => ?_) (fun c1 => ?_)
  · rw [if_pos c1] at h
    exact wX9_go_b341 hC hG hR Kr _ _ _ _ _ h hM (lv_sub hl [] rfl)
  · rw [if_neg c1] at h
    refine lr_aload_n hx hb dX9_go_318 rfl (lv_at hl 0 rfl) ?_
    obtain ⟨t2, e_t2, h⟩ := bn h
    refine gf_X9_101 hC hG hM e_t2 dX9_go_319 ?_
    refine lr_aload_n hx hb dX9_go_322 rfl (lv_at hl 0 rfl) ?_
    obtain ⟨t3, e_t3, h⟩ := bn h
    refine gf_X9_104 hC hG hM e_t3 dX9_go_323 ?_
    refine lv_isub hx hb dX9_go_326 ?_
    refine lv_iload_n hx hb dX9_go_327 rfl (lv_at hl 1 rfl) ?_
    refine lv_if_eq (tgt := 336) hx hb dX9_go_328 (by decide) (fun c4 => ?_) (fun c4 => ?_)
    · rw [if_pos c4] at h
      refine lv_bipush (v := 6) hx hb dX9_go_336 (by decide) ?_
      exact wX9_go_b338 hC hG hR Kr _ _ _ _ _ _ _ _ h hM (lv_sub hl [1] rfl)
    · rw [if_neg c4] at h
      refine lv_bipush (v := 8) hx hb dX9_go_331 (by decide) ?_
      refine lv_goto (tgt := 338) hx hb dX9_go_333 (by decide) ?_
      exact wX9_go_b338 hC hG hR Kr _ _ _ _ _ _ _ _ h hM (lv_sub hl [1] rfl)
def fX9_go_b300 (rc177 : Nat → Int32 → Int32 → Mem → Option (Mem)) (o0 : Nat) (x2 : Int32) (x3 : Int32)  (σ : Mem) : Option (Mem) :=
  (fI σ 9 4 (some o0)).bind fun t1 =>
    (pI σ 9 4 (some o0) (t1 + 1)).bind fun m2 =>
    rc177 o0 x2 x3 m2
set_option maxRecDepth 20000 in
theorem wX9_go_b300 {σ' : Mem} (hC : CallFix p m c cX9_go 5 s args WALL RX9) (hG : GS D cy A s) (hR : 1 ≤ R.frames ∧ 36 ≤ R.locals) (Kr : KrV p l e R s m args below meth c cX9_go Q D cy ad A z () σ') {rc177 : Nat → Int32 → Int32 → Mem → Option (Mem)} (Kc177 : ∀ (o0 : Nat) (x2 : Int32) (x3 : Int32) (τ : Mem) (H : Heap) (locs : List Loc) (ls : Array Slot), rc177 o0 x2 x3 τ = some σ' → MS D cy ad A s.heap z τ H locs → lv_has ls 5 [(0, va_rf (Option.map ad (some o0))), (2, .int x2), (3, .int x3)] → W p l e R s m args below meth c H locs 0 0 Q (F0 m 177 ls [])) (o0 : Nat) (x2 : Int32) (x3 : Int32)  (σ : Mem) (H : Heap) (locs : List Loc) (ls : Array Slot) (h : fX9_go_b300 rc177 o0 x2 x3 σ = some σ') (hM : MS D cy ad A s.heap z σ H locs) (hl : lv_has ls 5 [(0, va_rf (Option.map ad (some o0))), (2, .int x2), (3, .int x3)]) : W p l e R s m args below meth c H locs 0 0 Q (F0 m 300 ls []) := by
  have hx := hC.1
  have hb := hC.2.1
  unfold fX9_go_b300 at h
  refine lr_aload_n hx hb dX9_go_300 rfl (lv_at hl 0 rfl) ?_
  refine lv_dup hx hb dX9_go_301 (va_cat _) ?_
  obtain ⟨t1, e_t1, h⟩ := bn h
  refine gf_X9_101 hC hG hM e_t1 dX9_go_302 ?_
  refine lv_iconst (v := 1) hx hb dX9_go_305 (by decide) ?_
  refine lv_iadd hx hb dX9_go_306 ?_
  obtain ⟨m2, e_m2, h⟩ := bn h
  refine pf_X9_101 hC hG hM e_m2 dX9_go_307 (fun H locs hM => ?_)
  refine lv_goto (tgt := 177) hx hb dX9_go_310 (by decide) ?_
  exact Kc177 _ _ _ _ _ _ _ h hM (lv_sub hl [0, 1, 2] rfl)
def fX9_go_b269 (rc177 : Nat → Int32 → Int32 → Mem → Option (Mem)) (o0 : Nat) (x2 : Int32) (x3 : Int32) (x4 : Int32)  (σ : Mem) : Option (Mem) :=
  (fI σ 9 4 (some o0)).bind fun t1 =>
    (fI σ 9 5 (some o0)).bind fun t2 =>
    if 6 ≤ (t1 - t2) then fX9_go_b300 rc177 o0 x2 x3 σ
    else (fI σ 9 7 (some o0)).bind fun t4 =>
      (pI σ 9 7 (some o0) (((10 * t4) + x4) - 48)).bind fun m5 =>
      fX9_go_b300 rc177 o0 x2 x3 m5
set_option maxRecDepth 20000 in
theorem wX9_go_b269 {σ' : Mem} (hC : CallFix p m c cX9_go 5 s args WALL RX9) (hG : GS D cy A s) (hR : 1 ≤ R.frames ∧ 36 ≤ R.locals) (Kr : KrV p l e R s m args below meth c cX9_go Q D cy ad A z () σ') {rc177 : Nat → Int32 → Int32 → Mem → Option (Mem)} (Kc177 : ∀ (o0 : Nat) (x2 : Int32) (x3 : Int32) (τ : Mem) (H : Heap) (locs : List Loc) (ls : Array Slot), rc177 o0 x2 x3 τ = some σ' → MS D cy ad A s.heap z τ H locs → lv_has ls 5 [(0, va_rf (Option.map ad (some o0))), (2, .int x2), (3, .int x3)] → W p l e R s m args below meth c H locs 0 0 Q (F0 m 177 ls [])) (o0 : Nat) (x2 : Int32) (x3 : Int32) (x4 : Int32)  (σ : Mem) (H : Heap) (locs : List Loc) (ls : Array Slot) (h : fX9_go_b269 rc177 o0 x2 x3 x4 σ = some σ') (hM : MS D cy ad A s.heap z σ H locs) (hl : lv_has ls 5 [(0, va_rf (Option.map ad (some o0))), (2, .int x2), (3, .int x3), (4, .int x4)]) : W p l e R s m args below meth c H locs 0 0 Q (F0 m 269 ls []) := by
  have hx := hC.1
  have hb := hC.2.1
  unfold fX9_go_b269 at h
  refine lr_aload_n hx hb dX9_go_269 rfl (lv_at hl 0 rfl) ?_
  obtain ⟨t1, e_t1, h⟩ := bn h
  refine gf_X9_101 hC hG hM e_t1 dX9_go_270 ?_
  refine lr_aload_n hx hb dX9_go_273 rfl (lv_at hl 0 rfl) ?_
  obtain ⟨t2, e_t2, h⟩ := bn h
  refine gf_X9_104 hC hG hM e_t2 dX9_go_274 ?_
  refine lv_isub hx hb dX9_go_277 ?_
  refine lv_bipush (v := 6) hx hb dX9_go_278 (by decide) ?_
  refine lv_icmp_ge (tgt := 300) hx hb dX9_go_280 (by decide) (fun c3 => ?_) (fun c3 => ?_)
  · rw [if_pos c3] at h
    exact wX9_go_b300 hC hG hR Kr Kc177 _ _ _ _ _ _ _ h hM (lv_sub hl [0, 1, 2] rfl)
  · rw [if_neg c3] at h
    refine lr_aload_n hx hb dX9_go_283 rfl (lv_at hl 0 rfl) ?_
    refine lv_bipush (v := 10) hx hb dX9_go_284 (by decide) ?_
    refine lr_aload_n hx hb dX9_go_286 rfl (lv_at hl 0 rfl) ?_
    obtain ⟨t4, e_t4, h⟩ := bn h
    refine gf_X9_121 hC hG hM e_t4 dX9_go_287 ?_
    refine lv_imul hx hb dX9_go_290 ?_
    refine lv_iload hx hb dX9_go_291 (lv_at hl 3 rfl) ?_
    refine lv_iadd hx hb dX9_go_293 ?_
    refine lv_bipush (v := 48) hx hb dX9_go_294 (by decide) ?_
    refine lv_isub hx hb dX9_go_296 ?_
    obtain ⟨m5, e_m5, h⟩ := bn h
    refine pf_X9_121 hC hG hM e_m5 dX9_go_297 (fun H locs hM => ?_)
    exact wX9_go_b300 hC hG hR Kr Kc177 _ _ _ _ _ _ _ h hM (lv_sub hl [0, 1, 2] rfl)
def fX9_go_b234 (rc177 : Nat → Int32 → Int32 → Mem → Option (Mem)) (o0 : Nat) (x2 : Int32) (x4 : Int32) (y0 : Int32) (σ : Mem) : Option (Mem) :=
  (fI σ 9 4 (some o0)).bind fun t1 =>
    (fI σ 9 5 (some o0)).bind fun t2 =>
    if 8 ≤ (t1 - t2) then fX9_go_b269 rc177 o0 x2 y0 x4 σ
    else (fJ σ 9 10 (some o0)).bind fun t4 =>
      (pJ σ 9 10 (some o0) (((27 * t4) + ((x4 : Int32).toInt64)) - 96)).bind fun m5 =>
      fX9_go_b269 rc177 o0 x2 y0 x4 m5
set_option maxRecDepth 20000 in
theorem wX9_go_b234 {σ' : Mem} (hC : CallFix p m c cX9_go 5 s args WALL RX9) (hG : GS D cy A s) (hR : 1 ≤ R.frames ∧ 36 ≤ R.locals) (Kr : KrV p l e R s m args below meth c cX9_go Q D cy ad A z () σ') {rc177 : Nat → Int32 → Int32 → Mem → Option (Mem)} (Kc177 : ∀ (o0 : Nat) (x2 : Int32) (x3 : Int32) (τ : Mem) (H : Heap) (locs : List Loc) (ls : Array Slot), rc177 o0 x2 x3 τ = some σ' → MS D cy ad A s.heap z τ H locs → lv_has ls 5 [(0, va_rf (Option.map ad (some o0))), (2, .int x2), (3, .int x3)] → W p l e R s m args below meth c H locs 0 0 Q (F0 m 177 ls [])) (o0 : Nat) (x2 : Int32) (x4 : Int32) (y0 : Int32) (σ : Mem) (H : Heap) (locs : List Loc) (ls : Array Slot) (h : fX9_go_b234 rc177 o0 x2 x4 y0 σ = some σ') (hM : MS D cy ad A s.heap z σ H locs) (hl : lv_has ls 5 [(0, va_rf (Option.map ad (some o0))), (2, .int x2), (4, .int x4)]) : W p l e R s m args below meth c H locs 0 0 Q (F0 m 234 ls [.int y0]) := by
  have hx := hC.1
  have hb := hC.2.1
  unfold fX9_go_b234 at h
  refine lv_istore_n (lv' := [(3, .int y0), (0, va_rf (Option.map ad (some o0))), (2, .int x2), (4, .int x4)]) hx hb dX9_go_234 rfl hl (by decide) (by first | rfl | simp [va_cat]) (fun ls hl => ?_)
  refine lr_aload_n hx hb dX9_go_235 rfl (lv_at hl 1 rfl) ?_
  obtain ⟨t1, e_t1, h⟩ := bn h
  refine gf_X9_101 hC hG hM e_t1 dX9_go_236 ?_
  refine lr_aload_n hx hb dX9_go_239 rfl (lv_at hl 1 rfl) ?_
  obtain ⟨t2, e_t2, h⟩ := bn h
  refine gf_X9_104 hC hG hM e_t2 dX9_go_240 ?_
  refine lv_isub hx hb dX9_go_243 ?_
  refine lv_bipush (v := 8) hx hb dX9_go_244 (by decide) ?_
  refine lv_icmp_ge (tgt := 269) hx hb dX9_go_246 (by decide) (fun c3 => ?_) (fun c3 => ?_)
  · rw [if_pos c3] at h
    exact wX9_go_b269 hC hG hR Kr Kc177 _ _ _ _ _ _ _ _ h hM (lv_sub hl [1, 2, 0, 3] rfl)
  · rw [if_neg c3] at h
    refine lr_aload_n hx hb dX9_go_249 rfl (lv_at hl 1 rfl) ?_
    refine lv_ldc2 (v := 27) hx hb hC.2.2.2.1 (hC.2.2.2.2 _ wk_X9_128) dX9_go_250 ?_
    refine lr_aload_n hx hb dX9_go_253 rfl (lv_at hl 1 rfl) ?_
    obtain ⟨t4, e_t4, h⟩ := bn h
    refine gf_X9_117 hC hG hM e_t4 dX9_go_254 ?_
    refine lv_lmul hx hb dX9_go_257 ?_
    refine lv_iload hx hb dX9_go_258 (lv_at hl 3 rfl) ?_
    refine lv_i2l hx hb dX9_go_260 rfl ?_
    refine lv_ladd hx hb dX9_go_261 ?_
    refine lv_ldc2 (v := 96) hx hb hC.2.2.2.1 (hC.2.2.2.2 _ wk_X9_130) dX9_go_262 ?_
    refine lv_lsub hx hb dX9_go_265 ?_
    obtain ⟨m5, e_m5, h⟩ := bn h
    refine pf_X9_117 hC hG hM e_m5 dX9_go_266 (fun H locs hM => ?_)
    exact wX9_go_b269 hC hG hR Kr Kc177 _ _ _ _ _ _ _ _ h hM (lv_sub hl [1, 2, 0, 3] rfl)
def fX9_go_b233 (rc177 : Nat → Int32 → Int32 → Mem → Option (Mem)) (o0 : Nat) (x2 : Int32) (x4 : Int32)  (σ : Mem) : Option (Mem) :=
  fX9_go_b234 rc177 o0 x2 x4 0 σ
set_option maxRecDepth 20000 in
theorem wX9_go_b233 {σ' : Mem} (hC : CallFix p m c cX9_go 5 s args WALL RX9) (hG : GS D cy A s) (hR : 1 ≤ R.frames ∧ 36 ≤ R.locals) (Kr : KrV p l e R s m args below meth c cX9_go Q D cy ad A z () σ') {rc177 : Nat → Int32 → Int32 → Mem → Option (Mem)} (Kc177 : ∀ (o0 : Nat) (x2 : Int32) (x3 : Int32) (τ : Mem) (H : Heap) (locs : List Loc) (ls : Array Slot), rc177 o0 x2 x3 τ = some σ' → MS D cy ad A s.heap z τ H locs → lv_has ls 5 [(0, va_rf (Option.map ad (some o0))), (2, .int x2), (3, .int x3)] → W p l e R s m args below meth c H locs 0 0 Q (F0 m 177 ls [])) (o0 : Nat) (x2 : Int32) (x4 : Int32)  (σ : Mem) (H : Heap) (locs : List Loc) (ls : Array Slot) (h : fX9_go_b233 rc177 o0 x2 x4 σ = some σ') (hM : MS D cy ad A s.heap z σ H locs) (hl : lv_has ls 5 [(0, va_rf (Option.map ad (some o0))), (2, .int x2), (4, .int x4)]) : W p l e R s m args below meth c H locs 0 0 Q (F0 m 233 ls []) := by
  have hx := hC.1
  have hb := hC.2.1
  unfold fX9_go_b233 at h
  refine lv_iconst (v := 0) hx hb dX9_go_233 (by decide) ?_
  exact wX9_go_b234 hC hG hR Kr Kc177 _ _ _ _ _ _ _ _ h hM (lv_sub hl [0, 1, 2] rfl)
def fX9_go_b205 (rc177 : Nat → Int32 → Int32 → Mem → Option (Mem)) (o0 : Nat) (x2 : Int32) (x3 : Int32)  (σ : Mem) : Option (Mem) :=
  (fR σ 9 1 (some o0)).bind fun t1 =>
    (fI σ 9 4 (some o0)).bind fun t2 =>
    (aI σ 11 t1 t2).bind fun t3 =>
    if x3 = 0 then fX9_go_b233 rc177 o0 x2 t3 σ
    else b2 (fX9_isLetter t3 σ) fun t5 m6 =>
      if t5 = x2 then fX9_go_b234 rc177 o0 x2 t3 1 m6
      else fX9_go_b233 rc177 o0 x2 t3 m6
set_option maxRecDepth 20000 in
theorem wX9_go_b205 {σ' : Mem} (hC : CallFix p m c cX9_go 5 s args WALL RX9) (hG : GS D cy A s) (hR : 1 ≤ R.frames ∧ 36 ≤ R.locals) (Kr : KrV p l e R s m args below meth c cX9_go Q D cy ad A z () σ') {rc177 : Nat → Int32 → Int32 → Mem → Option (Mem)} (Kc177 : ∀ (o0 : Nat) (x2 : Int32) (x3 : Int32) (τ : Mem) (H : Heap) (locs : List Loc) (ls : Array Slot), rc177 o0 x2 x3 τ = some σ' → MS D cy ad A s.heap z τ H locs → lv_has ls 5 [(0, va_rf (Option.map ad (some o0))), (2, .int x2), (3, .int x3)] → W p l e R s m args below meth c H locs 0 0 Q (F0 m 177 ls [])) (o0 : Nat) (x2 : Int32) (x3 : Int32)  (σ : Mem) (H : Heap) (locs : List Loc) (ls : Array Slot) (h : fX9_go_b205 rc177 o0 x2 x3 σ = some σ') (hM : MS D cy ad A s.heap z σ H locs) (hl : lv_has ls 5 [(0, va_rf (Option.map ad (some o0))), (2, .int x2), (3, .int x3)]) : W p l e R s m args below meth c H locs 0 0 Q (F0 m 205 ls []) := by
  have hx := hC.1
  have hb := hC.2.1
  unfold fX9_go_b205 at h
  refine lr_aload_n hx hb dX9_go_205 rfl (lv_at hl 0 rfl) ?_
  obtain ⟨t1, e_t1, h⟩ := bn h
  refine gf_X9_7 hC hG hM e_t1 dX9_go_206 ?_
  refine lr_aload_n hx hb dX9_go_209 rfl (lv_at hl 0 rfl) ?_
  obtain ⟨t2, e_t2, h⟩ := bn h
  refine gf_X9_101 hC hG hM e_t2 dX9_go_210 ?_
  obtain ⟨t3, e_t3, h⟩ := bn h
  refine g_iald hx hb hG hM e_t3 dX9_go_213 ?_
  refine lv_istore (lv' := [(4, .int t3), (0, va_rf (Option.map ad (some o0))), (2, .int x2), (3, .int x3)]) hx hb dX9_go_214 hl (by decide) (by first | rfl | simp [va_cat]) (fun ls hl => ?_)
  refine lv_iload_n hx hb dX9_go_216 rfl (lv_at hl 3 rfl) ?_
  refine lv_if_eq (tgt := 233) hx hb dX9_go_217 (by decide) (fun c4 => ?_) (fun c4 => ?_)
  · rw [if_pos c4] at h
    exact wX9_go_b233 hC hG hR Kr Kc177 _ _ _ _ _ _ _ h hM (lv_sub hl [1, 2, 0] rfl)
  · rw [if_neg c4] at h
    refine lv_iload hx hb dX9_go_220 (lv_at hl 0 rfl) ?_
    obtain ⟨t5, m6, e_m6, h⟩ := b2_elim h
    refine cs_X9_110 hC hG hM (cX9_isLetter_ok e_m6) ⟨by omega, by omega⟩ hl.1 (by first | exact Nat.le_of_ble_eq_true rfl | simp [va_cat, vcI, vcL, vcR]) dX9_go_222 (fun H locs hM => ?_)
    refine lv_iload_n hx hb dX9_go_225 rfl (lv_at hl 2 rfl) ?_
    refine lv_icmp_ne (tgt := 233) hx hb dX9_go_226 (by decide) (fun c7 => ?_) (fun c7 => ?_)
    · rw [if_neg c7] at h
      exact wX9_go_b233 hC hG hR Kr Kc177 _ _ _ _ _ _ _ h hM (lv_sub hl [1, 2, 0] rfl)
    · rw [if_pos c7] at h
      refine lv_iconst (v := 1) hx hb dX9_go_229 (by decide) ?_
      refine lv_goto (tgt := 234) hx hb dX9_go_230 (by decide) ?_
      exact wX9_go_b234 hC hG hR Kr Kc177 _ _ _ _ _ _ _ _ h hM (lv_sub hl [1, 2, 0] rfl)
def fX9_go_b177  : Nat → Nat → Int32 → Int32 → Mem → Option (Mem)
  | 0, _, _, _, _ => none
  | n + 1, o0, x2, x3, σ =>
    (fI σ 9 4 (some o0)).bind fun t1 =>
      (kT σ 9 (some o0)).bind fun k2 =>
      b2 (fX9_byteAt k2 t1 σ) fun t3 m4 =>
      b2 (fX9_isLetter t3 m4) fun t5 m6 =>
      if t5 = 0 then (fI m6 9 4 (some o0)).bind fun t8 =>
        (kT m6 9 (some o0)).bind fun k9 =>
        b2 (fX9_byteAt k9 t8 m6) fun t10 m11 =>
        b2 (fX9_isDigit t10 m11) fun t12 m13 =>
        if t12 = 0 then fX9_go_b313 o0 x2 x3 m13
        else fX9_go_b205 (fX9_go_b177 n) o0 x2 x3 m13
      else fX9_go_b205 (fX9_go_b177 n) o0 x2 x3 m6
set_option maxRecDepth 20000 in
theorem wX9_go_b177 {σ' : Mem} (hC : CallFix p m c cX9_go 5 s args WALL RX9) (hG : GS D cy A s) (hR : 1 ≤ R.frames ∧ 36 ≤ R.locals) (Kr : KrV p l e R s m args below meth c cX9_go Q D cy ad A z () σ')  : ∀ (n : Nat) (o0 : Nat) (x2 : Int32) (x3 : Int32)  (σ : Mem) (H : Heap) (locs : List Loc) (ls : Array Slot), fX9_go_b177 n o0 x2 x3 σ = some σ' → MS D cy ad A s.heap z σ H locs → lv_has ls 5 [(0, va_rf (Option.map ad (some o0))), (2, .int x2), (3, .int x3)] → W p l e R s m args below meth c H locs 0 0 Q (F0 m 177 ls []) := by
  have hx := hC.1
  have hb := hC.2.1
  intro n
  induction n with
  | zero =>
    intro o0 x2 x3 σ H locs ls h
    cases h
  | succ n ih =>
    intro o0 x2 x3 σ H locs ls h hM hl
    rw [fX9_go_b177] at h
    refine lr_aload_n hx hb dX9_go_177 rfl (lv_at hl 0 rfl) ?_
    refine lr_aload_n hx hb dX9_go_178 rfl (lv_at hl 0 rfl) ?_
    obtain ⟨t1, e_t1, h⟩ := bn h
    refine gf_X9_101 hC hG hM e_t1 dX9_go_179 ?_
    obtain ⟨k2, e_k2, h⟩ := bn h
    obtain ⟨t3, m4, e_m4, h⟩ := b2_elim h
    refine cs_X9_124 e_k2 hC hG hM (cX9_byteAt_ok e_m4) ⟨by omega, by omega⟩ hl.1 (by first | exact Nat.le_of_ble_eq_true rfl | simp [va_cat, vcI, vcL, vcR]) dX9_go_182 (fun H locs hM => ?_)
    obtain ⟨t5, m6, e_m6, h⟩ := b2_elim h
    refine cs_X9_110 hC hG hM (cX9_isLetter_ok e_m6) ⟨by omega, by omega⟩ hl.1 (by first | exact Nat.le_of_ble_eq_true rfl | simp [va_cat, vcI, vcL, vcR]) dX9_go_185 (fun H locs hM => ?_)
    refine lv_if_ne (tgt := 205) hx hb dX9_go_188 (by decide) (fun c7 => ?_) (fun c7 => ?_)
    · rw [if_neg c7] at h
      exact wX9_go_b205 hC hG hR Kr ih _ _ _ _ _ _ _ h hM (lv_sub hl [0, 1, 2] rfl)
    · rw [if_pos c7] at h
      refine lr_aload_n hx hb dX9_go_191 rfl (lv_at hl 0 rfl) ?_
      refine lr_aload_n hx hb dX9_go_192 rfl (lv_at hl 0 rfl) ?_
      obtain ⟨t8, e_t8, h⟩ := bn h
      refine gf_X9_101 hC hG hM e_t8 dX9_go_193 ?_
      obtain ⟨k9, e_k9, h⟩ := bn h
      obtain ⟨t10, m11, e_m11, h⟩ := b2_elim h
      refine cs_X9_124 e_k9 hC hG hM (cX9_byteAt_ok e_m11) ⟨by omega, by omega⟩ hl.1 (by first | exact Nat.le_of_ble_eq_true rfl | simp [va_cat, vcI, vcL, vcR]) dX9_go_196 (fun H locs hM => ?_)
      obtain ⟨t12, m13, e_m13, h⟩ := b2_elim h
      refine cs_X9_114 hC hG hM (cX9_isDigit_ok e_m13) ⟨by omega, by omega⟩ hl.1 (by first | exact Nat.le_of_ble_eq_true rfl | simp [va_cat, vcI, vcL, vcR]) dX9_go_199 (fun H locs hM => ?_)
      refine lv_if_eq (tgt := 313) hx hb dX9_go_202 (by decide) (fun c14 => ?_) (fun c14 => ?_)
      · rw [if_pos c14] at h
        exact wX9_go_b313 hC hG hR Kr _ _ _ _ _ _ _ h hM (lv_sub hl [0, 1, 2] rfl)
      · rw [if_neg c14] at h
        exact wX9_go_b205 hC hG hR Kr ih _ _ _ _ _ _ _ h hM (lv_sub hl [0, 1, 2] rfl)
def fX9_go_b160  (o0 : Nat) (x1 : Int32)  (σ : Mem) : Option (Mem) :=
  b2 (fX9_isLetter x1 σ) fun t1 m2 =>
    (pJ m2 9 10 (some o0) 0).bind fun m3 =>
    (pI m3 9 7 (some o0) 0).bind fun m4 =>
    fX9_go_b177 FU o0 t1 1 m4
set_option maxRecDepth 20000 in
theorem wX9_go_b160 {σ' : Mem} (hC : CallFix p m c cX9_go 5 s args WALL RX9) (hG : GS D cy A s) (hR : 1 ≤ R.frames ∧ 36 ≤ R.locals) (Kr : KrV p l e R s m args below meth c cX9_go Q D cy ad A z () σ')  (o0 : Nat) (x1 : Int32)  (σ : Mem) (H : Heap) (locs : List Loc) (ls : Array Slot) (h : fX9_go_b160 o0 x1 σ = some σ') (hM : MS D cy ad A s.heap z σ H locs) (hl : lv_has ls 5 [(0, va_rf (Option.map ad (some o0))), (1, .int x1)]) : W p l e R s m args below meth c H locs 0 0 Q (F0 m 160 ls []) := by
  have hx := hC.1
  have hb := hC.2.1
  unfold fX9_go_b160 at h
  refine lv_iload_n hx hb dX9_go_160 rfl (lv_at hl 1 rfl) ?_
  obtain ⟨t1, m2, e_m2, h⟩ := b2_elim h
  refine cs_X9_110 hC hG hM (cX9_isLetter_ok e_m2) ⟨by omega, by omega⟩ hl.1 (by first | exact Nat.le_of_ble_eq_true rfl | simp [va_cat, vcI, vcL, vcR]) dX9_go_161 (fun H locs hM => ?_)
  refine lv_istore_n (lv' := [(2, .int t1), (0, va_rf (Option.map ad (some o0))), (1, .int x1)]) hx hb dX9_go_164 rfl hl (by decide) (by first | rfl | simp [va_cat]) (fun ls hl => ?_)
  refine lv_iconst (v := 1) hx hb dX9_go_165 (by decide) ?_
  refine lv_istore_n (lv' := [(3, .int 1), (2, .int t1), (0, va_rf (Option.map ad (some o0))), (1, .int x1)]) hx hb dX9_go_166 rfl hl (by decide) (by first | rfl | simp [va_cat]) (fun ls hl => ?_)
  refine lr_aload_n hx hb dX9_go_167 rfl (lv_at hl 2 rfl) ?_
  refine lv_lconst (v := 0) hx hb dX9_go_168 (by decide) ?_
  obtain ⟨m3, e_m3, h⟩ := bn h
  refine pf_X9_117 hC hG hM e_m3 dX9_go_169 (fun H locs hM => ?_)
  refine lr_aload_n hx hb dX9_go_172 rfl (lv_at hl 2 rfl) ?_
  refine lv_iconst (v := 0) hx hb dX9_go_173 (by decide) ?_
  obtain ⟨m4, e_m4, h⟩ := bn h
  refine pf_X9_121 hC hG hM e_m4 dX9_go_174 (fun H locs hM => ?_)
  exact wX9_go_b177 hC hG hR Kr FU _ _ _ _ _ _ _ h hM (lv_sub hl [2, 1, 0] rfl)
def fX9_go_b146  (o0 : Nat) (y0 : Int32) (y1 : Option Nat) (σ : Mem) : Option (Mem) :=
  (pI σ 9 6 y1 y0).bind fun m1 =>
    (fI m1 9 4 (some o0)).bind fun t2 =>
    (pI m1 9 4 (some o0) (t2 + 1)).bind fun m3 =>
    some m3
set_option maxRecDepth 20000 in
theorem wX9_go_b146 {σ' : Mem} (hC : CallFix p m c cX9_go 5 s args WALL RX9) (hG : GS D cy A s) (hR : 1 ≤ R.frames ∧ 36 ≤ R.locals) (Kr : KrV p l e R s m args below meth c cX9_go Q D cy ad A z () σ')  (o0 : Nat) (y0 : Int32) (y1 : Option Nat) (σ : Mem) (H : Heap) (locs : List Loc) (ls : Array Slot) (h : fX9_go_b146 o0 y0 y1 σ = some σ') (hM : MS D cy ad A s.heap z σ H locs) (hl : lv_has ls 5 [(0, va_rf (Option.map ad (some o0)))]) : W p l e R s m args below meth c H locs 0 0 Q (F0 m 146 ls [.int y0, va_rf (Option.map ad y1)]) := by
  have hx := hC.1
  have hb := hC.2.1
  unfold fX9_go_b146 at h
  obtain ⟨m1, e_m1, h⟩ := bn h
  refine pf_X9_107 hC hG hM e_m1 dX9_go_146 (fun H locs hM => ?_)
  refine lr_aload_n hx hb dX9_go_149 rfl (lv_at hl 0 rfl) ?_
  refine lv_dup hx hb dX9_go_150 (va_cat _) ?_
  obtain ⟨t2, e_t2, h⟩ := bn h
  refine gf_X9_101 hC hG hM e_t2 dX9_go_151 ?_
  refine lv_iconst (v := 1) hx hb dX9_go_154 (by decide) ?_
  refine lv_iadd hx hb dX9_go_155 ?_
  obtain ⟨m3, e_m3, h⟩ := bn h
  refine pf_X9_101 hC hG hM e_m3 dX9_go_156 (fun H locs hM => ?_)
  cases h
  exact Kr _ _ _ _ dX9_go_159 hM
def fX9_go_b93  (o0 : Nat)  (σ : Mem) : Option (Mem) :=
  (fI σ 9 4 (some o0)).bind fun t1 =>
    (fI σ 9 3 (some o0)).bind fun t2 =>
    if t1 < t2 then (fR σ 9 1 (some o0)).bind fun t4 =>
      (fI σ 9 4 (some o0)).bind fun t5 =>
      (aI σ 11 t4 t5).bind fun t6 =>
      b2 (fX9_isLetter t6 σ) fun t7 m8 =>
      if t7 = 0 then b2 (fX9_isDigit t6 m8) fun t10 m11 =>
        if t10 = 0 then if t6 = 59 then fX9_go_b146 o0 4 (some o0) m11
          else fX9_go_b146 o0 1 (some o0) m11
        else fX9_go_b160 o0 t6 m11
      else fX9_go_b160 o0 t6 m8
    else (pI σ 9 6 (some o0) 0).bind fun m14 =>
      some m14
set_option maxRecDepth 20000 in
theorem wX9_go_b93 {σ' : Mem} (hC : CallFix p m c cX9_go 5 s args WALL RX9) (hG : GS D cy A s) (hR : 1 ≤ R.frames ∧ 36 ≤ R.locals) (Kr : KrV p l e R s m args below meth c cX9_go Q D cy ad A z () σ')  (o0 : Nat)  (σ : Mem) (H : Heap) (locs : List Loc) (ls : Array Slot) (h : fX9_go_b93 o0 σ = some σ') (hM : MS D cy ad A s.heap z σ H locs) (hl : lv_has ls 5 [(0, va_rf (Option.map ad (some o0)))]) : W p l e R s m args below meth c H locs 0 0 Q (F0 m 93 ls []) := by
  have hx := hC.1
  have hb := hC.2.1
  unfold fX9_go_b93 at h
  refine lr_aload_n hx hb dX9_go_93 rfl (lv_at hl 0 rfl) ?_
  obtain ⟨t1, e_t1, h⟩ := bn h
  refine gf_X9_101 hC hG hM e_t1 dX9_go_94 ?_
  refine lr_aload_n hx hb dX9_go_97 rfl (lv_at hl 0 rfl) ?_
  obtain ⟨t2, e_t2, h⟩ := bn h
  refine gf_X9_98 hC hG hM e_t2 dX9_go_98 ?_
  refine lv_icmp_lt (tgt := 110) hx hb dX9_go_101 (by decide) (fun c3 => ?_) (fun c3 => ?_)
  · rw [if_pos c3] at h
    refine lr_aload_n hx hb dX9_go_110 rfl (lv_at hl 0 rfl) ?_
    obtain ⟨t4, e_t4, h⟩ := bn h
    refine gf_X9_7 hC hG hM e_t4 dX9_go_111 ?_
    refine lr_aload_n hx hb dX9_go_114 rfl (lv_at hl 0 rfl) ?_
    obtain ⟨t5, e_t5, h⟩ := bn h
    refine gf_X9_101 hC hG hM e_t5 dX9_go_115 ?_
    obtain ⟨t6, e_t6, h⟩ := bn h
    refine g_iald hx hb hG hM e_t6 dX9_go_118 ?_
    refine lv_istore_n (lv' := [(1, .int t6), (0, va_rf (Option.map ad (some o0)))]) hx hb dX9_go_119 rfl hl (by decide) (by first | rfl | simp [va_cat]) (fun ls hl => ?_)
    refine lv_iload_n hx hb dX9_go_120 rfl (lv_at hl 0 rfl) ?_
    obtain ⟨t7, m8, e_m8, h⟩ := b2_elim h
    refine cs_X9_110 hC hG hM (cX9_isLetter_ok e_m8) ⟨by omega, by omega⟩ hl.1 (by first | exact Nat.le_of_ble_eq_true rfl | simp [va_cat, vcI, vcL, vcR]) dX9_go_121 (fun H locs hM => ?_)
    refine lv_if_ne (tgt := 160) hx hb dX9_go_124 (by decide) (fun c9 => ?_) (fun c9 => ?_)
    · rw [if_neg c9] at h
      exact wX9_go_b160 hC hG hR Kr _ _ _ _ _ _ h hM (lv_sub hl [1, 0] rfl)
    · rw [if_pos c9] at h
      refine lv_iload_n hx hb dX9_go_127 rfl (lv_at hl 0 rfl) ?_
      obtain ⟨t10, m11, e_m11, h⟩ := b2_elim h
      refine cs_X9_114 hC hG hM (cX9_isDigit_ok e_m11) ⟨by omega, by omega⟩ hl.1 (by first | exact Nat.le_of_ble_eq_true rfl | simp [va_cat, vcI, vcL, vcR]) dX9_go_128 (fun H locs hM => ?_)
      refine lv_if_ne (tgt := 160) hx hb dX9_go_131 (by decide) (fun c12 => ?_) (fun c12 => ?_)
      · rw [if_neg c12] at h
        exact wX9_go_b160 hC hG hR Kr _ _ _ _ _ _ h hM (lv_sub hl [1, 0] rfl)
      · rw [if_pos c12] at h
        refine lr_aload_n hx hb dX9_go_134 rfl (lv_at hl 1 rfl) ?_
        refine lv_iload_n hx hb dX9_go_135 rfl (lv_at hl 0 rfl) ?_
        refine lv_bipush (v := 59) hx hb dX9_go_136 (by decide) ?_
        refine lv_icmp_ne (tgt := 145) hx hb dX9_go_138 (by decide) (fun c13 => ?_) (fun c13 => ?_)
        · rw [if_neg c13] at h
          refine lv_iconst (v := 1) hx hb dX9_go_145 (by decide) ?_
          exact wX9_go_b146 hC hG hR Kr _ _ _ _ _ _ _ h hM (lv_sub hl [1] rfl)
        · rw [if_pos c13] at h
          refine lv_iconst (v := 4) hx hb dX9_go_141 (by decide) ?_
          refine lv_goto (tgt := 146) hx hb dX9_go_142 (by decide) ?_
          exact wX9_go_b146 hC hG hR Kr _ _ _ _ _ _ _ h hM (lv_sub hl [1] rfl)
  · rw [if_neg c3] at h
    refine lr_aload_n hx hb dX9_go_104 rfl (lv_at hl 0 rfl) ?_
    refine lv_iconst (v := 0) hx hb dX9_go_105 (by decide) ?_
    obtain ⟨m14, e_m14, h⟩ := bn h
    refine pf_X9_107 hC hG hM e_m14 dX9_go_106 (fun H locs hM => ?_)
    cases h
    exact Kr _ _ _ _ dX9_go_109 hM
def fX9_go_b52  (o0 : Nat)  (σ : Mem) : Option (Mem) :=
  (fI σ 9 4 (some o0)).bind fun t1 =>
    (pI σ 9 5 (some o0) t1).bind fun m2 =>
    (fI m2 9 3 (some o0)).bind fun t3 =>
    if t3 ≤ 800 then fX9_go_b93 o0 m2
    else (fI m2 9 5 (some o0)).bind fun t5 =>
      if t5 < 800 then fX9_go_b93 o0 m2
      else (pI m2 9 5 (some o0) 800).bind fun m7 =>
        (pI m7 9 6 (some o0) 1).bind fun m8 =>
        some m8
set_option maxRecDepth 20000 in
theorem wX9_go_b52 {σ' : Mem} (hC : CallFix p m c cX9_go 5 s args WALL RX9) (hG : GS D cy A s) (hR : 1 ≤ R.frames ∧ 36 ≤ R.locals) (Kr : KrV p l e R s m args below meth c cX9_go Q D cy ad A z () σ')  (o0 : Nat)  (σ : Mem) (H : Heap) (locs : List Loc) (ls : Array Slot) (h : fX9_go_b52 o0 σ = some σ') (hM : MS D cy ad A s.heap z σ H locs) (hl : lv_has ls 5 [(0, va_rf (Option.map ad (some o0)))]) : W p l e R s m args below meth c H locs 0 0 Q (F0 m 52 ls []) := by
  have hx := hC.1
  have hb := hC.2.1
  unfold fX9_go_b52 at h
  refine lr_aload_n hx hb dX9_go_52 rfl (lv_at hl 0 rfl) ?_
  refine lr_aload_n hx hb dX9_go_53 rfl (lv_at hl 0 rfl) ?_
  obtain ⟨t1, e_t1, h⟩ := bn h
  refine gf_X9_101 hC hG hM e_t1 dX9_go_54 ?_
  obtain ⟨m2, e_m2, h⟩ := bn h
  refine pf_X9_104 hC hG hM e_m2 dX9_go_57 (fun H locs hM => ?_)
  refine lr_aload_n hx hb dX9_go_60 rfl (lv_at hl 0 rfl) ?_
  obtain ⟨t3, e_t3, h⟩ := bn h
  refine gf_X9_98 hC hG hM e_t3 dX9_go_61 ?_
  refine lv_sipush (v := 800) hx hb dX9_go_64 (by decide) ?_
  refine lv_icmp_le (tgt := 93) hx hb dX9_go_67 (by decide) (fun c4 => ?_) (fun c4 => ?_)
  · rw [if_pos c4] at h
    exact wX9_go_b93 hC hG hR Kr _ _ _ _ _ h hM (lv_sub hl [0] rfl)
  · rw [if_neg c4] at h
    refine lr_aload_n hx hb dX9_go_70 rfl (lv_at hl 0 rfl) ?_
    obtain ⟨t5, e_t5, h⟩ := bn h
    refine gf_X9_104 hC hG hM e_t5 dX9_go_71 ?_
    refine lv_sipush (v := 800) hx hb dX9_go_74 (by decide) ?_
    refine lv_icmp_lt (tgt := 93) hx hb dX9_go_77 (by decide) (fun c6 => ?_) (fun c6 => ?_)
    · rw [if_pos c6] at h
      exact wX9_go_b93 hC hG hR Kr _ _ _ _ _ h hM (lv_sub hl [0] rfl)
    · rw [if_neg c6] at h
      refine lr_aload_n hx hb dX9_go_80 rfl (lv_at hl 0 rfl) ?_
      refine lv_sipush (v := 800) hx hb dX9_go_81 (by decide) ?_
      obtain ⟨m7, e_m7, h⟩ := bn h
      refine pf_X9_104 hC hG hM e_m7 dX9_go_84 (fun H locs hM => ?_)
      refine lr_aload_n hx hb dX9_go_87 rfl (lv_at hl 0 rfl) ?_
      refine lv_iconst (v := 1) hx hb dX9_go_88 (by decide) ?_
      obtain ⟨m8, e_m8, h⟩ := bn h
      refine pf_X9_107 hC hG hM e_m8 dX9_go_89 (fun H locs hM => ?_)
      cases h
      exact Kr _ _ _ _ dX9_go_92 hM
def fX9_go_b39 (rc0 : Nat → Mem → Option (Mem)) (o0 : Nat)  (σ : Mem) : Option (Mem) :=
  (fI σ 9 4 (some o0)).bind fun t1 =>
    (pI σ 9 4 (some o0) (t1 + 1)).bind fun m2 =>
    rc0 o0 m2
set_option maxRecDepth 20000 in
theorem wX9_go_b39 {σ' : Mem} (hC : CallFix p m c cX9_go 5 s args WALL RX9) (hG : GS D cy A s) (hR : 1 ≤ R.frames ∧ 36 ≤ R.locals) (Kr : KrV p l e R s m args below meth c cX9_go Q D cy ad A z () σ') {rc0 : Nat → Mem → Option (Mem)} (Kc0 : ∀ (o0 : Nat) (τ : Mem) (H : Heap) (locs : List Loc) (ls : Array Slot), rc0 o0 τ = some σ' → MS D cy ad A s.heap z τ H locs → lv_has ls 5 [(0, va_rf (Option.map ad (some o0)))] → W p l e R s m args below meth c H locs 0 0 Q (F0 m 0 ls [])) (o0 : Nat)  (σ : Mem) (H : Heap) (locs : List Loc) (ls : Array Slot) (h : fX9_go_b39 rc0 o0 σ = some σ') (hM : MS D cy ad A s.heap z σ H locs) (hl : lv_has ls 5 [(0, va_rf (Option.map ad (some o0)))]) : W p l e R s m args below meth c H locs 0 0 Q (F0 m 39 ls []) := by
  have hx := hC.1
  have hb := hC.2.1
  unfold fX9_go_b39 at h
  refine lr_aload_n hx hb dX9_go_39 rfl (lv_at hl 0 rfl) ?_
  refine lv_dup hx hb dX9_go_40 (va_cat _) ?_
  obtain ⟨t1, e_t1, h⟩ := bn h
  refine gf_X9_101 hC hG hM e_t1 dX9_go_41 ?_
  refine lv_iconst (v := 1) hx hb dX9_go_44 (by decide) ?_
  refine lv_iadd hx hb dX9_go_45 ?_
  obtain ⟨m2, e_m2, h⟩ := bn h
  refine pf_X9_101 hC hG hM e_m2 dX9_go_46 (fun H locs hM => ?_)
  refine lv_goto (tgt := 0) hx hb dX9_go_49 (by decide) ?_
  exact Kc0 _ _ _ _ _ h hM (lv_sub hl [0] rfl)
def fX9_go_b0  : Nat → Nat → Mem → Option (Mem)
  | 0, _, _ => none
  | n + 1, o0, σ =>
    (fI σ 9 4 (some o0)).bind fun t1 =>
      (fI σ 9 3 (some o0)).bind fun t2 =>
      if t2 ≤ t1 then fX9_go_b52 o0 σ
      else (fR σ 9 1 (some o0)).bind fun t4 =>
        (fI σ 9 4 (some o0)).bind fun t5 =>
        (aI σ 11 t4 t5).bind fun t6 =>
        if t6 = 32 then fX9_go_b39 (fX9_go_b0 n) o0 σ
        else (fR σ 9 1 (some o0)).bind fun t8 =>
          (fI σ 9 4 (some o0)).bind fun t9 =>
          (aI σ 11 t8 t9).bind fun t10 =>
          if t10 = 10 then fX9_go_b39 (fX9_go_b0 n) o0 σ
          else fX9_go_b52 o0 σ
set_option maxRecDepth 20000 in
theorem wX9_go_b0 {σ' : Mem} (hC : CallFix p m c cX9_go 5 s args WALL RX9) (hG : GS D cy A s) (hR : 1 ≤ R.frames ∧ 36 ≤ R.locals) (Kr : KrV p l e R s m args below meth c cX9_go Q D cy ad A z () σ')  : ∀ (n : Nat) (o0 : Nat)  (σ : Mem) (H : Heap) (locs : List Loc) (ls : Array Slot), fX9_go_b0 n o0 σ = some σ' → MS D cy ad A s.heap z σ H locs → lv_has ls 5 [(0, va_rf (Option.map ad (some o0)))] → W p l e R s m args below meth c H locs 0 0 Q (F0 m 0 ls []) := by
  have hx := hC.1
  have hb := hC.2.1
  intro n
  induction n with
  | zero =>
    intro o0 σ H locs ls h
    cases h
  | succ n ih =>
    intro o0 σ H locs ls h hM hl
    rw [fX9_go_b0] at h
    refine lr_aload_n hx hb dX9_go_0 rfl (lv_at hl 0 rfl) ?_
    obtain ⟨t1, e_t1, h⟩ := bn h
    refine gf_X9_101 hC hG hM e_t1 dX9_go_1 ?_
    refine lr_aload_n hx hb dX9_go_4 rfl (lv_at hl 0 rfl) ?_
    obtain ⟨t2, e_t2, h⟩ := bn h
    refine gf_X9_98 hC hG hM e_t2 dX9_go_5 ?_
    refine lv_icmp_ge (tgt := 52) hx hb dX9_go_8 (by decide) (fun c3 => ?_) (fun c3 => ?_)
    · rw [if_pos c3] at h
      exact wX9_go_b52 hC hG hR Kr _ _ _ _ _ h hM (lv_sub hl [0] rfl)
    · rw [if_neg c3] at h
      refine lr_aload_n hx hb dX9_go_11 rfl (lv_at hl 0 rfl) ?_
      obtain ⟨t4, e_t4, h⟩ := bn h
      refine gf_X9_7 hC hG hM e_t4 dX9_go_12 ?_
      refine lr_aload_n hx hb dX9_go_15 rfl (lv_at hl 0 rfl) ?_
      obtain ⟨t5, e_t5, h⟩ := bn h
      refine gf_X9_101 hC hG hM e_t5 dX9_go_16 ?_
      obtain ⟨t6, e_t6, h⟩ := bn h
      refine g_iald hx hb hG hM e_t6 dX9_go_19 ?_
      refine lv_bipush (v := 32) hx hb dX9_go_20 (by decide) ?_
      refine lv_icmp_eq (tgt := 39) hx hb dX9_go_22 (by decide) (fun c7 => ?_) (fun c7 => ?_)
      · rw [if_pos c7] at h
        exact wX9_go_b39 hC hG hR Kr ih _ _ _ _ _ h hM (lv_sub hl [0] rfl)
      · rw [if_neg c7] at h
        refine lr_aload_n hx hb dX9_go_25 rfl (lv_at hl 0 rfl) ?_
        obtain ⟨t8, e_t8, h⟩ := bn h
        refine gf_X9_7 hC hG hM e_t8 dX9_go_26 ?_
        refine lr_aload_n hx hb dX9_go_29 rfl (lv_at hl 0 rfl) ?_
        obtain ⟨t9, e_t9, h⟩ := bn h
        refine gf_X9_101 hC hG hM e_t9 dX9_go_30 ?_
        obtain ⟨t10, e_t10, h⟩ := bn h
        refine g_iald hx hb hG hM e_t10 dX9_go_33 ?_
        refine lv_bipush (v := 10) hx hb dX9_go_34 (by decide) ?_
        refine lv_icmp_ne (tgt := 52) hx hb dX9_go_36 (by decide) (fun c11 => ?_) (fun c11 => ?_)
        · rw [if_neg c11] at h
          exact wX9_go_b52 hC hG hR Kr _ _ _ _ _ h hM (lv_sub hl [0] rfl)
        · rw [if_pos c11] at h
          exact wX9_go_b39 hC hG hR Kr ih _ _ _ _ _ h hM (lv_sub hl [0] rfl)
def fX9_go (o0 : Nat) (σ : Mem) : Option (Mem) :=
  fX9_go_b0 FU o0 σ
set_option maxRecDepth 20000 in
theorem wX9_go {σ' : Mem} (hC : CallFix p m c cX9_go 5 s args WALL RX9) (hG : GS D cy A s) (hR : 1 ≤ R.frames ∧ 36 ≤ R.locals) (Kr : KrV p l e R s m args below meth c cX9_go Q D cy ad A z () σ') (o0 : Nat) (σ : Mem) (H : Heap) (locs : List Loc) (ls : Array Slot) (h : fX9_go o0 σ = some σ') (hM : MS D cy ad A s.heap z σ H locs) (hl : lv_has ls 5 [(0, va_rf (Option.map ad (some o0)))]) : W p l e R s m args below meth c H locs 0 0 Q (F0 m 0 ls []) := by
  have hx := hC.1
  have hb := hC.2.1
  unfold fX9_go at h
  exact wX9_go_b0 hC hG hR Kr FU _ _ _ _ _ h hM (lv_sub hl [0] rfl)
theorem cX9_go_ok {l : Launch} {D : va_G} {cy : Nat → ClassId} {ad : Nat → Nat} {A : Nat → Prop} {z : Nat} {σ' : Mem} {o0 : Nat} {σ : Mem} (h : fX9_go o0 σ = some σ') : CtV l yX9_go cX9_go 5 none 1 [.ref (ad o0)] D cy ad A z σ () σ' :=
  enterV (own := RX9) (by decide) rfl (Nat.le_of_ble_eq_true rfl) rfl (fun p e s m below meth c Q ls hC hG hM Kr hl => wX9_go hC hG ⟨Nat.le_refl _, Nat.le_refl _⟩ Kr _ _ _ _ _ h hM hl)
/-! X9_group (I)I -/
def fX9_group_b32   (y0 : Int32) (σ : Mem) : Option (Int32 × Mem) :=
  some (y0, σ)
set_option maxRecDepth 20000 in
theorem wX9_group_b32 {r : Int32} {σ' : Mem} (hC : CallFix p m c cX9_group 2 s args WALL RX9) (hG : GS D cy A s) (hR : 1 ≤ R.frames ∧ 36 ≤ R.locals) (Kr : KrI p l e R s m args below meth c cX9_group Q D cy ad A z r σ')   (y0 : Int32) (σ : Mem) (H : Heap) (locs : List Loc) (ls : Array Slot) (h : fX9_group_b32 y0 σ = some (r, σ')) (hM : MS D cy ad A s.heap z σ H locs) (hl : lv_has ls 2 []) : W p l e R s m args below meth c H locs 0 0 Q (F0 m 32 ls [.int y0]) := by
  have hx := hC.1
  have hb := hC.2.1
  unfold fX9_group_b32 at h
  obtain ⟨rfl, rfl⟩ := Prod.mk.inj (Option.some.inj h)
  exact Kr _ _ _ _ dX9_group_32 hM
def fX9_group_b31    (σ : Mem) : Option (Int32 × Mem) :=
  fX9_group_b32 (-1) σ
set_option maxRecDepth 20000 in
theorem wX9_group_b31 {r : Int32} {σ' : Mem} (hC : CallFix p m c cX9_group 2 s args WALL RX9) (hG : GS D cy A s) (hR : 1 ≤ R.frames ∧ 36 ≤ R.locals) (Kr : KrI p l e R s m args below meth c cX9_group Q D cy ad A z r σ')    (σ : Mem) (H : Heap) (locs : List Loc) (ls : Array Slot) (h : fX9_group_b31  σ = some (r, σ')) (hM : MS D cy ad A s.heap z σ H locs) (hl : lv_has ls 2 []) : W p l e R s m args below meth c H locs 0 0 Q (F0 m 31 ls []) := by
  have hx := hC.1
  have hb := hC.2.1
  unfold fX9_group_b31 at h
  refine lv_iconst (v := (-1)) hx hb dX9_group_31 (by decide) ?_
  exact wX9_group_b32 hC hG hR Kr _ _ _ _ _ h hM (lv_sub hl [] rfl)
def fX9_group (o0 : Nat) (x1 : Int32) (σ : Mem) : Option (Int32 × Mem) :=
  (pI σ 9 0 (some o0) 0).bind fun m1 =>
    b2 (fX9_isIn x1 4 m1) fun t2 m3 =>
    if t2 = 0 then fX9_group_b31 m3
    else (fR m3 9 39 (some o0)).bind fun t5 =>
      (aI m3 11 t5 x1).bind fun t6 =>
      if t6 ≤ 0 then fX9_group_b31 m3
      else (fR m3 9 39 (some o0)).bind fun t8 =>
        (aI m3 11 t8 x1).bind fun t9 =>
        fX9_group_b32 t9 m3
set_option maxRecDepth 20000 in
theorem wX9_group {r : Int32} {σ' : Mem} (hC : CallFix p m c cX9_group 2 s args WALL RX9) (hG : GS D cy A s) (hR : 1 ≤ R.frames ∧ 36 ≤ R.locals) (Kr : KrI p l e R s m args below meth c cX9_group Q D cy ad A z r σ') (o0 : Nat) (x1 : Int32) (σ : Mem) (H : Heap) (locs : List Loc) (ls : Array Slot) (h : fX9_group o0 x1 σ = some (r, σ')) (hM : MS D cy ad A s.heap z σ H locs) (hl : lv_has ls 2 [(0, va_rf (Option.map ad (some o0))), (1, .int x1)]) : W p l e R s m args below meth c H locs 0 0 Q (F0 m 0 ls []) := by
  have hx := hC.1
  have hb := hC.2.1
  unfold fX9_group at h
  refine lr_aload_n hx hb dX9_group_0 rfl (lv_at hl 0 rfl) ?_
  refine lv_iconst (v := 0) hx hb dX9_group_1 (by decide) ?_
  obtain ⟨m1, e_m1, h⟩ := bn h
  refine pf_X9_87 hC hG hM e_m1 dX9_group_2 (fun H locs hM => ?_)
  refine lv_iload_n hx hb dX9_group_5 rfl (lv_at hl 1 rfl) ?_
  refine lv_iconst (v := 4) hx hb dX9_group_6 (by decide) ?_
  obtain ⟨t2, m3, e_m3, h⟩ := b2_elim h
  refine cs_X9_224 hC hG hM (cX9_isIn_ok e_m3) ⟨by omega, by omega⟩ hl.1 (by first | exact Nat.le_of_ble_eq_true rfl | simp [va_cat, vcI, vcL, vcR]) dX9_group_7 (fun H locs hM => ?_)
  refine lv_if_eq (tgt := 31) hx hb dX9_group_10 (by decide) (fun c4 => ?_) (fun c4 => ?_)
  · rw [if_pos c4] at h
    exact wX9_group_b31 hC hG hR Kr _ _ _ _ h hM (lv_sub hl [] rfl)
  · rw [if_neg c4] at h
    refine lr_aload_n hx hb dX9_group_13 rfl (lv_at hl 0 rfl) ?_
    obtain ⟨t5, e_t5, h⟩ := bn h
    refine gf_X9_78 hC hG hM e_t5 dX9_group_14 ?_
    refine lv_iload_n hx hb dX9_group_17 rfl (lv_at hl 1 rfl) ?_
    obtain ⟨t6, e_t6, h⟩ := bn h
    refine g_iald hx hb hG hM e_t6 dX9_group_18 ?_
    refine lv_if_le (tgt := 31) hx hb dX9_group_19 (by decide) (fun c7 => ?_) (fun c7 => ?_)
    · rw [if_pos c7] at h
      exact wX9_group_b31 hC hG hR Kr _ _ _ _ h hM (lv_sub hl [] rfl)
    · rw [if_neg c7] at h
      refine lr_aload_n hx hb dX9_group_22 rfl (lv_at hl 0 rfl) ?_
      obtain ⟨t8, e_t8, h⟩ := bn h
      refine gf_X9_78 hC hG hM e_t8 dX9_group_23 ?_
      refine lv_iload_n hx hb dX9_group_26 rfl (lv_at hl 1 rfl) ?_
      obtain ⟨t9, e_t9, h⟩ := bn h
      refine g_iald hx hb hG hM e_t9 dX9_group_27 ?_
      refine lv_goto (tgt := 32) hx hb dX9_group_28 (by decide) ?_
      exact wX9_group_b32 hC hG hR Kr _ _ _ _ _ h hM (lv_sub hl [] rfl)
theorem cX9_group_ok {l : Launch} {D : va_G} {cy : Nat → ClassId} {ad : Nat → Nat} {A : Nat → Prop} {z : Nat} {r : Int32} {σ' : Mem} {o0 : Nat} {x1 : Int32} {σ : Mem} (h : fX9_group o0 x1 σ = some (r, σ')) : CtI l yX9_group cX9_group 2 (some .int) 1 [.ref (ad o0), .int x1] D cy ad A z σ r σ' :=
  enterI (own := RX9) (by decide) rfl (Nat.le_of_ble_eq_true rfl) rfl (fun p e s m below meth c Q ls hC hG hM Kr hl => wX9_group hC hG ⟨Nat.le_refl _, Nat.le_refl _⟩ Kr _ _ _ _ _ _ h hM hl)
/-! X9_name (I)I -/
def fX9_name_b100  (o0 : Nat)  (σ : Mem) : Option (Int32 × Mem) :=
  (fI σ 9 26 (some o0)).bind fun t1 =>
    some (t1, σ)
set_option maxRecDepth 20000 in
theorem wX9_name_b100 {r : Int32} {σ' : Mem} (hC : CallFix p m c cX9_name 5 s args WALL RX9) (hG : GS D cy A s) (hR : 1 ≤ R.frames ∧ 36 ≤ R.locals) (Kr : KrI p l e R s m args below meth c cX9_name Q D cy ad A z r σ')  (o0 : Nat)  (σ : Mem) (H : Heap) (locs : List Loc) (ls : Array Slot) (h : fX9_name_b100 o0 σ = some (r, σ')) (hM : MS D cy ad A s.heap z σ H locs) (hl : lv_has ls 5 [(0, va_rf (Option.map ad (some o0)))]) : W p l e R s m args below meth c H locs 0 0 Q (F0 m 100 ls []) := by
  have hx := hC.1
  have hb := hC.2.1
  unfold fX9_name_b100 at h
  refine lr_aload_n hx hb dX9_name_100 rfl (lv_at hl 0 rfl) ?_
  obtain ⟨t1, e_t1, h⟩ := bn h
  refine gf_X9_221 hC hG hM e_t1 dX9_name_101 ?_
  obtain ⟨rfl, rfl⟩ := Prod.mk.inj (Option.some.inj h)
  exact Kr _ _ _ _ dX9_name_104 hM
def fX9_name_b67  : Nat → Nat → Int64 → Int32 → Mem → Option (Int32 × Mem)
  | 0, _, _, _, _ => none
  | n + 1, o0, x2, x4, σ =>
    if x4 < 0 then fX9_name_b100 o0 σ
      else (fR σ 9 25 (some o0)).bind fun t2 =>
        (wI σ 11 t2 x4 (((x2 - x2 / 27 * 27 : Int64).toInt32) + 96)).bind fun m3 =>
        bd (x2 / 27) fun t4 =>
        bd (x4 + (-1)) fun t5 =>
        (fX9_name_b67 n) o0 t4 t5 m3
set_option maxRecDepth 20000 in
theorem wX9_name_b67 {r : Int32} {σ' : Mem} (hC : CallFix p m c cX9_name 5 s args WALL RX9) (hG : GS D cy A s) (hR : 1 ≤ R.frames ∧ 36 ≤ R.locals) (Kr : KrI p l e R s m args below meth c cX9_name Q D cy ad A z r σ')  : ∀ (n : Nat) (o0 : Nat) (x2 : Int64) (x4 : Int32)  (σ : Mem) (H : Heap) (locs : List Loc) (ls : Array Slot), fX9_name_b67 n o0 x2 x4 σ = some (r, σ') → MS D cy ad A s.heap z σ H locs → lv_has ls 5 [(0, va_rf (Option.map ad (some o0))), (2, .long x2), (4, .int x4)] → W p l e R s m args below meth c H locs 0 0 Q (F0 m 67 ls []) := by
  have hx := hC.1
  have hb := hC.2.1
  intro n
  induction n with
  | zero =>
    intro o0 x2 x4 σ H locs ls h
    cases h
  | succ n ih =>
    intro o0 x2 x4 σ H locs ls h hM hl
    rw [fX9_name_b67] at h
    refine lv_iload hx hb dX9_name_67 (lv_at hl 2 rfl) ?_
    refine lv_if_lt (tgt := 100) hx hb dX9_name_69 (by decide) (fun c1 => ?_) (fun c1 => ?_)
    · rw [if_pos c1] at h
      exact wX9_name_b100 hC hG hR Kr _ _ _ _ _ h hM (lv_sub hl [0] rfl)
    · rw [if_neg c1] at h
      refine lr_aload_n hx hb dX9_name_72 rfl (lv_at hl 0 rfl) ?_
      obtain ⟨t2, e_t2, h⟩ := bn h
      refine gf_X9_48 hC hG hM e_t2 dX9_name_73 ?_
      refine lv_iload hx hb dX9_name_76 (lv_at hl 2 rfl) ?_
      refine lv_lload_n hx hb dX9_name_78 rfl (lv_at hl 1 rfl) ?_
      refine lv_ldc2 (v := 27) hx hb hC.2.2.2.1 (hC.2.2.2.2 _ wk_X9_128) dX9_name_79 ?_
      refine lv_lrem hx hb dX9_name_82 (by decide) ?_
      refine lv_l2i hx hb dX9_name_83 rfl ?_
      refine lv_bipush (v := 96) hx hb dX9_name_84 (by decide) ?_
      refine lv_iadd hx hb dX9_name_86 ?_
      obtain ⟨m3, e_m3, h⟩ := bn h
      refine g_iast hx hb hG hM e_m3 dX9_name_87 (fun H locs hM => ?_)
      refine lv_lload_n hx hb dX9_name_88 rfl (lv_at hl 1 rfl) ?_
      refine lv_ldc2 (v := 27) hx hb hC.2.2.2.1 (hC.2.2.2.2 _ wk_X9_128) dX9_name_89 ?_
      refine lv_ldiv hx hb dX9_name_92 (by decide) ?_
      obtain ⟨t4, e_t4, h⟩ := bd_elim h
      refine lr_nml e_t4 ?_
      refine lv_lstore_n (lv' := [(2, .long t4), (0, va_rf (Option.map ad (some o0))), (4, .int x4)]) hx hb dX9_name_93 rfl hl (by decide) (by first | rfl | simp [va_cat]) (fun ls hl => ?_)
      obtain ⟨t5, e_t5, h⟩ := bd_elim h
      refine lv_iinc (v := t5) (lv' := [(4, .int t5), (2, .long t4), (0, va_rf (Option.map ad (some o0)))]) hx hb dX9_name_94 hl (k := 2) rfl (by rw [e_t5]; rfl) (by decide) (by first | rfl | simp [va_cat]) (fun ls hl => ?_)
      refine lv_goto (tgt := 67) hx hb dX9_name_97 (by decide) ?_
      exact ih _ _ _ _ _ _ _ h hM (lv_sub hl [2, 1, 0] rfl)
def fX9_name_b52  (o0 : Nat) (x1 : Int32)  (σ : Mem) : Option (Int32 × Mem) :=
  (fR σ 9 11 (some o0)).bind fun t1 =>
    (aJ σ 12 t1 x1).bind fun t2 =>
    (fI σ 9 26 (some o0)).bind fun t3 =>
    bd (t3 - 1) fun t4 =>
    fX9_name_b67 FU o0 t2 t4 σ
set_option maxRecDepth 20000 in
theorem wX9_name_b52 {r : Int32} {σ' : Mem} (hC : CallFix p m c cX9_name 5 s args WALL RX9) (hG : GS D cy A s) (hR : 1 ≤ R.frames ∧ 36 ≤ R.locals) (Kr : KrI p l e R s m args below meth c cX9_name Q D cy ad A z r σ')  (o0 : Nat) (x1 : Int32)  (σ : Mem) (H : Heap) (locs : List Loc) (ls : Array Slot) (h : fX9_name_b52 o0 x1 σ = some (r, σ')) (hM : MS D cy ad A s.heap z σ H locs) (hl : lv_has ls 5 [(0, va_rf (Option.map ad (some o0))), (1, .int x1)]) : W p l e R s m args below meth c H locs 0 0 Q (F0 m 52 ls []) := by
  have hx := hC.1
  have hb := hC.2.1
  unfold fX9_name_b52 at h
  refine lr_aload_n hx hb dX9_name_52 rfl (lv_at hl 0 rfl) ?_
  obtain ⟨t1, e_t1, h⟩ := bn h
  refine gf_X9_13 hC hG hM e_t1 dX9_name_53 ?_
  refine lv_iload_n hx hb dX9_name_56 rfl (lv_at hl 1 rfl) ?_
  obtain ⟨t2, e_t2, h⟩ := bn h
  refine g_lald hx hb hG hM e_t2 dX9_name_57 ?_
  refine lv_lstore_n (lv' := [(2, .long t2), (0, va_rf (Option.map ad (some o0))), (1, .int x1)]) hx hb dX9_name_58 rfl hl (by decide) (by first | rfl | simp [va_cat]) (fun ls hl => ?_)
  refine lr_aload_n hx hb dX9_name_59 rfl (lv_at hl 1 rfl) ?_
  obtain ⟨t3, e_t3, h⟩ := bn h
  refine gf_X9_221 hC hG hM e_t3 dX9_name_60 ?_
  refine lv_iconst (v := 1) hx hb dX9_name_63 (by decide) ?_
  refine lv_isub hx hb dX9_name_64 ?_
  obtain ⟨t4, e_t4, h⟩ := bd_elim h
  refine lr_nmi e_t4 ?_
  refine lv_istore (lv' := [(4, .int t4), (2, .long t2), (0, va_rf (Option.map ad (some o0))), (1, .int x1)]) hx hb dX9_name_65 hl (by decide) (by first | rfl | simp [va_cat]) (fun ls hl => ?_)
  exact wX9_name_b67 hC hG hR Kr FU _ _ _ _ _ _ _ h hM (lv_sub hl [2, 1, 0] rfl)
def fX9_name_b27  : Nat → Nat → Int32 → Int64 → Mem → Option (Int32 × Mem)
  | 0, _, _, _, _ => none
  | n + 1, o0, x1, x2, σ =>
    if x2 ≤ 0 then fX9_name_b52 o0 x1 σ
      else (fI σ 9 26 (some o0)).bind fun t2 =>
        (pI σ 9 26 (some o0) (t2 + 1)).bind fun m3 =>
        bd (x2 / 27) fun t4 =>
        (fX9_name_b27 n) o0 x1 t4 m3
set_option maxRecDepth 20000 in
theorem wX9_name_b27 {r : Int32} {σ' : Mem} (hC : CallFix p m c cX9_name 5 s args WALL RX9) (hG : GS D cy A s) (hR : 1 ≤ R.frames ∧ 36 ≤ R.locals) (Kr : KrI p l e R s m args below meth c cX9_name Q D cy ad A z r σ')  : ∀ (n : Nat) (o0 : Nat) (x1 : Int32) (x2 : Int64)  (σ : Mem) (H : Heap) (locs : List Loc) (ls : Array Slot), fX9_name_b27 n o0 x1 x2 σ = some (r, σ') → MS D cy ad A s.heap z σ H locs → lv_has ls 5 [(0, va_rf (Option.map ad (some o0))), (1, .int x1), (2, .long x2)] → W p l e R s m args below meth c H locs 0 0 Q (F0 m 27 ls []) := by
  have hx := hC.1
  have hb := hC.2.1
  intro n
  induction n with
  | zero =>
    intro o0 x1 x2 σ H locs ls h
    cases h
  | succ n ih =>
    intro o0 x1 x2 σ H locs ls h hM hl
    rw [fX9_name_b27] at h
    refine lv_lload_n hx hb dX9_name_27 rfl (lv_at hl 2 rfl) ?_
    refine lv_lconst (v := 0) hx hb dX9_name_28 (by decide) ?_
    refine lc_le (tgt := 52) hx hb dX9_name_29 dX9_name_30 (by decide) (fun c1 => ?_) (fun c1 => ?_)
    · rw [if_pos c1] at h
      exact wX9_name_b52 hC hG hR Kr _ _ _ _ _ _ h hM (lv_sub hl [0, 1] rfl)
    · rw [if_neg c1] at h
      refine lr_aload_n hx hb dX9_name_33 rfl (lv_at hl 0 rfl) ?_
      refine lv_dup hx hb dX9_name_34 (va_cat _) ?_
      obtain ⟨t2, e_t2, h⟩ := bn h
      refine gf_X9_221 hC hG hM e_t2 dX9_name_35 ?_
      refine lv_iconst (v := 1) hx hb dX9_name_38 (by decide) ?_
      refine lv_iadd hx hb dX9_name_39 ?_
      obtain ⟨m3, e_m3, h⟩ := bn h
      refine pf_X9_221 hC hG hM e_m3 dX9_name_40 (fun H locs hM => ?_)
      refine lv_lload_n hx hb dX9_name_43 rfl (lv_at hl 2 rfl) ?_
      refine lv_ldc2 (v := 27) hx hb hC.2.2.2.1 (hC.2.2.2.2 _ wk_X9_128) dX9_name_44 ?_
      refine lv_ldiv hx hb dX9_name_47 (by decide) ?_
      obtain ⟨t4, e_t4, h⟩ := bd_elim h
      refine lr_nml e_t4 ?_
      refine lv_lstore_n (lv' := [(2, .long t4), (0, va_rf (Option.map ad (some o0))), (1, .int x1)]) hx hb dX9_name_48 rfl hl (by decide) (by first | rfl | simp [va_cat]) (fun ls hl => ?_)
      refine lv_goto (tgt := 27) hx hb dX9_name_49 (by decide) ?_
      exact ih _ _ _ _ _ _ _ h hM (lv_sub hl [1, 2, 0] rfl)
def fX9_name (o0 : Nat) (x1 : Int32) (σ : Mem) : Option (Int32 × Mem) :=
  (pI σ 9 0 (some o0) 0).bind fun m1 =>
    (kT m1 9 (some o0)).bind fun k2 =>
    b2 (fX9_isPlan k2 x1 m1) fun t3 m4 =>
    if t3 = 0 then some ((-1), m4)
    else (pI m4 9 26 (some o0) 0).bind fun m6 =>
      (fR m6 9 11 (some o0)).bind fun t7 =>
      (aJ m6 12 t7 x1).bind fun t8 =>
      fX9_name_b27 FU o0 x1 t8 m6
set_option maxRecDepth 20000 in
theorem wX9_name {r : Int32} {σ' : Mem} (hC : CallFix p m c cX9_name 5 s args WALL RX9) (hG : GS D cy A s) (hR : 1 ≤ R.frames ∧ 36 ≤ R.locals) (Kr : KrI p l e R s m args below meth c cX9_name Q D cy ad A z r σ') (o0 : Nat) (x1 : Int32) (σ : Mem) (H : Heap) (locs : List Loc) (ls : Array Slot) (h : fX9_name o0 x1 σ = some (r, σ')) (hM : MS D cy ad A s.heap z σ H locs) (hl : lv_has ls 5 [(0, va_rf (Option.map ad (some o0))), (1, .int x1)]) : W p l e R s m args below meth c H locs 0 0 Q (F0 m 0 ls []) := by
  have hx := hC.1
  have hb := hC.2.1
  unfold fX9_name at h
  refine lr_aload_n hx hb dX9_name_0 rfl (lv_at hl 0 rfl) ?_
  refine lv_iconst (v := 0) hx hb dX9_name_1 (by decide) ?_
  obtain ⟨m1, e_m1, h⟩ := bn h
  refine pf_X9_87 hC hG hM e_m1 dX9_name_2 (fun H locs hM => ?_)
  refine lr_aload_n hx hb dX9_name_5 rfl (lv_at hl 0 rfl) ?_
  refine lv_iload_n hx hb dX9_name_6 rfl (lv_at hl 1 rfl) ?_
  obtain ⟨k2, e_k2, h⟩ := bn h
  obtain ⟨t3, m4, e_m4, h⟩ := b2_elim h
  refine cs_X9_214 e_k2 hC hG hM (cX9_isPlan_ok e_m4) ⟨by omega, by omega⟩ hl.1 (by first | exact Nat.le_of_ble_eq_true rfl | simp [va_cat, vcI, vcL, vcR]) dX9_name_7 (fun H locs hM => ?_)
  refine lv_if_ne (tgt := 15) hx hb dX9_name_10 (by decide) (fun c5 => ?_) (fun c5 => ?_)
  · rw [if_neg c5] at h
    refine lr_aload_n hx hb dX9_name_15 rfl (lv_at hl 0 rfl) ?_
    refine lv_iconst (v := 0) hx hb dX9_name_16 (by decide) ?_
    obtain ⟨m6, e_m6, h⟩ := bn h
    refine pf_X9_221 hC hG hM e_m6 dX9_name_17 (fun H locs hM => ?_)
    refine lr_aload_n hx hb dX9_name_20 rfl (lv_at hl 0 rfl) ?_
    obtain ⟨t7, e_t7, h⟩ := bn h
    refine gf_X9_13 hC hG hM e_t7 dX9_name_21 ?_
    refine lv_iload_n hx hb dX9_name_24 rfl (lv_at hl 1 rfl) ?_
    obtain ⟨t8, e_t8, h⟩ := bn h
    refine g_lald hx hb hG hM e_t8 dX9_name_25 ?_
    refine lv_lstore_n (lv' := [(2, .long t8), (0, va_rf (Option.map ad (some o0))), (1, .int x1)]) hx hb dX9_name_26 rfl hl (by decide) (by first | rfl | simp [va_cat]) (fun ls hl => ?_)
    exact wX9_name_b27 hC hG hR Kr FU _ _ _ _ _ _ _ h hM (lv_sub hl [1, 2, 0] rfl)
  · rw [if_pos c5] at h
    refine lv_iconst (v := (-1)) hx hb dX9_name_13 (by decide) ?_
    obtain ⟨rfl, rfl⟩ := Prod.mk.inj (Option.some.inj h)
    exact Kr _ _ _ _ dX9_name_14 hM
theorem cX9_name_ok {l : Launch} {D : va_G} {cy : Nat → ClassId} {ad : Nat → Nat} {A : Nat → Prop} {z : Nat} {r : Int32} {σ' : Mem} {o0 : Nat} {x1 : Int32} {σ : Mem} (h : fX9_name o0 x1 σ = some (r, σ')) : CtI l yX9_name cX9_name 5 (some .int) 1 [.ref (ad o0), .int x1] D cy ad A z σ r σ' :=
  enterI (own := RX9) (by decide) rfl (Nat.le_of_ble_eq_true rfl) rfl (fun p e s m below meth c Q ls hC hG hM Kr hl => wX9_name hC hG ⟨Nat.le_refl _, Nat.le_refl _⟩ Kr _ _ _ _ _ _ h hM hl)
/-! X9_octet (I)I -/
def fX9_octet_b12  (o0 : Nat)  (σ : Mem) : Option (Int32 × Mem) :=
  (kT σ 9 (some o0)).bind fun k1 =>
    b2 (fX9_refuse k1 σ) fun t2 m3 =>
    some (t2, m3)
set_option maxRecDepth 20000 in
theorem wX9_octet_b12 {r : Int32} {σ' : Mem} (hC : CallFix p m c cX9_octet 2 s args WALL RX9) (hG : GS D cy A s) (hR : 1 ≤ R.frames ∧ 36 ≤ R.locals) (Kr : KrI p l e R s m args below meth c cX9_octet Q D cy ad A z r σ')  (o0 : Nat)  (σ : Mem) (H : Heap) (locs : List Loc) (ls : Array Slot) (h : fX9_octet_b12 o0 σ = some (r, σ')) (hM : MS D cy ad A s.heap z σ H locs) (hl : lv_has ls 2 [(0, va_rf (Option.map ad (some o0)))]) : W p l e R s m args below meth c H locs 0 0 Q (F0 m 12 ls []) := by
  have hx := hC.1
  have hb := hC.2.1
  unfold fX9_octet_b12 at h
  refine lr_aload_n hx hb dX9_octet_12 rfl (lv_at hl 0 rfl) ?_
  obtain ⟨k1, e_k1, h⟩ := bn h
  obtain ⟨t2, m3, e_m3, h⟩ := b2_elim h
  refine cs_X9_217 e_k1 hC hG hM (cX9_refuse_ok e_m3) ⟨by omega, by omega⟩ hl.1 (by first | exact Nat.le_of_ble_eq_true rfl | simp [va_cat, vcI, vcL, vcR]) dX9_octet_13 (fun H locs hM => ?_)
  obtain ⟨rfl, rfl⟩ := Prod.mk.inj (Option.some.inj h)
  exact Kr _ _ _ _ dX9_octet_16 hM
def fX9_octet (o0 : Nat) (x1 : Int32) (σ : Mem) : Option (Int32 × Mem) :=
  if x1 < 0 then fX9_octet_b12 o0 σ
    else (fI σ 9 26 (some o0)).bind fun t2 =>
      if x1 < t2 then (pI σ 9 0 (some o0) 0).bind fun m4 =>
        (fR m4 9 25 (some o0)).bind fun t5 =>
        (aI m4 11 t5 x1).bind fun t6 =>
        some (t6, m4)
      else fX9_octet_b12 o0 σ
set_option maxRecDepth 20000 in
theorem wX9_octet {r : Int32} {σ' : Mem} (hC : CallFix p m c cX9_octet 2 s args WALL RX9) (hG : GS D cy A s) (hR : 1 ≤ R.frames ∧ 36 ≤ R.locals) (Kr : KrI p l e R s m args below meth c cX9_octet Q D cy ad A z r σ') (o0 : Nat) (x1 : Int32) (σ : Mem) (H : Heap) (locs : List Loc) (ls : Array Slot) (h : fX9_octet o0 x1 σ = some (r, σ')) (hM : MS D cy ad A s.heap z σ H locs) (hl : lv_has ls 2 [(0, va_rf (Option.map ad (some o0))), (1, .int x1)]) : W p l e R s m args below meth c H locs 0 0 Q (F0 m 0 ls []) := by
  have hx := hC.1
  have hb := hC.2.1
  unfold fX9_octet at h
  refine lv_iload_n hx hb dX9_octet_0 rfl (lv_at hl 1 rfl) ?_
  refine lv_if_lt (tgt := 12) hx hb dX9_octet_1 (by decide) (fun c1 => ?_) (fun c1 => ?_)
  · rw [if_pos c1] at h
    exact wX9_octet_b12 hC hG hR Kr _ _ _ _ _ h hM (lv_sub hl [0] rfl)
  · rw [if_neg c1] at h
    refine lv_iload_n hx hb dX9_octet_4 rfl (lv_at hl 1 rfl) ?_
    refine lr_aload_n hx hb dX9_octet_5 rfl (lv_at hl 0 rfl) ?_
    obtain ⟨t2, e_t2, h⟩ := bn h
    refine gf_X9_221 hC hG hM e_t2 dX9_octet_6 ?_
    refine lv_icmp_lt (tgt := 17) hx hb dX9_octet_9 (by decide) (fun c3 => ?_) (fun c3 => ?_)
    · rw [if_pos c3] at h
      refine lr_aload_n hx hb dX9_octet_17 rfl (lv_at hl 0 rfl) ?_
      refine lv_iconst (v := 0) hx hb dX9_octet_18 (by decide) ?_
      obtain ⟨m4, e_m4, h⟩ := bn h
      refine pf_X9_87 hC hG hM e_m4 dX9_octet_19 (fun H locs hM => ?_)
      refine lr_aload_n hx hb dX9_octet_22 rfl (lv_at hl 0 rfl) ?_
      obtain ⟨t5, e_t5, h⟩ := bn h
      refine gf_X9_48 hC hG hM e_t5 dX9_octet_23 ?_
      refine lv_iload_n hx hb dX9_octet_26 rfl (lv_at hl 1 rfl) ?_
      obtain ⟨t6, e_t6, h⟩ := bn h
      refine g_iald hx hb hG hM e_t6 dX9_octet_27 ?_
      obtain ⟨rfl, rfl⟩ := Prod.mk.inj (Option.some.inj h)
      exact Kr _ _ _ _ dX9_octet_28 hM
    · rw [if_neg c3] at h
      exact wX9_octet_b12 hC hG hR Kr _ _ _ _ _ h hM (lv_sub hl [0] rfl)
theorem cX9_octet_ok {l : Launch} {D : va_G} {cy : Nat → ClassId} {ad : Nat → Nat} {A : Nat → Prop} {z : Nat} {r : Int32} {σ' : Mem} {o0 : Nat} {x1 : Int32} {σ : Mem} (h : fX9_octet o0 x1 σ = some (r, σ')) : CtI l yX9_octet cX9_octet 2 (some .int) 1 [.ref (ad o0), .int x1] D cy ad A z σ r σ' :=
  enterI (own := RX9) (by decide) rfl (Nat.le_of_ble_eq_true rfl) rfl (fun p e s m below meth c Q ls hC hG hM Kr hl => wX9_octet hC hG ⟨Nat.le_refl _, Nat.le_refl _⟩ Kr _ _ _ _ _ _ h hM hl)
/-! X9_offer (IIIIJ)V -/
def fX9_offer_b182  (o0 : Nat) (x2 : Int32) (x4 : Int32) (x7 : Int32)  (σ : Mem) : Option (Mem) :=
  (fR σ 9 32 (some o0)).bind fun t1 =>
    (wI σ 11 t1 ((24 * x7) + x4) x2).bind fun m2 =>
    some m2
set_option maxRecDepth 20000 in
theorem wX9_offer_b182 {σ' : Mem} (hC : CallFix p m c cX9_offer 10 s args WALL RX9) (hG : GS D cy A s) (hR : 1 ≤ R.frames ∧ 36 ≤ R.locals) (Kr : KrV p l e R s m args below meth c cX9_offer Q D cy ad A z () σ')  (o0 : Nat) (x2 : Int32) (x4 : Int32) (x7 : Int32)  (σ : Mem) (H : Heap) (locs : List Loc) (ls : Array Slot) (h : fX9_offer_b182 o0 x2 x4 x7 σ = some σ') (hM : MS D cy ad A s.heap z σ H locs) (hl : lv_has ls 10 [(0, va_rf (Option.map ad (some o0))), (2, .int x2), (4, .int x4), (7, .int x7)]) : W p l e R s m args below meth c H locs 0 0 Q (F0 m 182 ls []) := by
  have hx := hC.1
  have hb := hC.2.1
  unfold fX9_offer_b182 at h
  refine lr_aload_n hx hb dX9_offer_182 rfl (lv_at hl 0 rfl) ?_
  obtain ⟨t1, e_t1, h⟩ := bn h
  refine gf_X9_63 hC hG hM e_t1 dX9_offer_183 ?_
  refine lv_bipush (v := 24) hx hb dX9_offer_186 (by decide) ?_
  refine lv_iload hx hb dX9_offer_188 (lv_at hl 3 rfl) ?_
  refine lv_imul hx hb dX9_offer_190 ?_
  refine lv_iload hx hb dX9_offer_191 (lv_at hl 2 rfl) ?_
  refine lv_iadd hx hb dX9_offer_193 ?_
  refine lv_iload_n hx hb dX9_offer_194 rfl (lv_at hl 1 rfl) ?_
  obtain ⟨m2, e_m2, h⟩ := bn h
  refine g_iast hx hb hG hM e_m2 dX9_offer_195 (fun H locs hM => ?_)
  cases h
  exact Kr _ _ _ _ dX9_offer_196 hM
def fX9_offer_b144  : Nat → Nat → Int32 → Int32 → Int32 → Int32 → Int32 → Mem → Option (Mem)
  | 0, _, _, _, _, _, _, _ => none
  | n + 1, o0, x1, x2, x4, x7, x9, σ =>
    if x4 ≤ x9 then fX9_offer_b182 o0 x2 x4 x7 σ
      else (fR σ 9 32 (some o0)).bind fun t2 =>
        (fR σ 9 31 (some o0)).bind fun t3 =>
        (aI σ 11 t3 ((24 * x1) + x9)).bind fun t4 =>
        (wI σ 11 t2 ((24 * x7) + x9) t4).bind fun m5 =>
        bd (x9 + 1) fun t6 =>
        (fX9_offer_b144 n) o0 x1 x2 x4 x7 t6 m5
set_option maxRecDepth 20000 in
theorem wX9_offer_b144 {σ' : Mem} (hC : CallFix p m c cX9_offer 10 s args WALL RX9) (hG : GS D cy A s) (hR : 1 ≤ R.frames ∧ 36 ≤ R.locals) (Kr : KrV p l e R s m args below meth c cX9_offer Q D cy ad A z () σ')  : ∀ (n : Nat) (o0 : Nat) (x1 : Int32) (x2 : Int32) (x4 : Int32) (x7 : Int32) (x9 : Int32)  (σ : Mem) (H : Heap) (locs : List Loc) (ls : Array Slot), fX9_offer_b144 n o0 x1 x2 x4 x7 x9 σ = some σ' → MS D cy ad A s.heap z σ H locs → lv_has ls 10 [(0, va_rf (Option.map ad (some o0))), (1, .int x1), (2, .int x2), (4, .int x4), (7, .int x7), (9, .int x9)] → W p l e R s m args below meth c H locs 0 0 Q (F0 m 144 ls []) := by
  have hx := hC.1
  have hb := hC.2.1
  intro n
  induction n with
  | zero =>
    intro o0 x1 x2 x4 x7 x9 σ H locs ls h
    cases h
  | succ n ih =>
    intro o0 x1 x2 x4 x7 x9 σ H locs ls h hM hl
    rw [fX9_offer_b144] at h
    refine lv_iload hx hb dX9_offer_144 (lv_at hl 5 rfl) ?_
    refine lv_iload hx hb dX9_offer_146 (lv_at hl 3 rfl) ?_
    refine lv_icmp_ge (tgt := 182) hx hb dX9_offer_148 (by decide) (fun c1 => ?_) (fun c1 => ?_)
    · rw [if_pos c1] at h
      exact wX9_offer_b182 hC hG hR Kr _ _ _ _ _ _ _ _ h hM (lv_sub hl [0, 2, 3, 4] rfl)
    · rw [if_neg c1] at h
      refine lr_aload_n hx hb dX9_offer_151 rfl (lv_at hl 0 rfl) ?_
      obtain ⟨t2, e_t2, h⟩ := bn h
      refine gf_X9_63 hC hG hM e_t2 dX9_offer_152 ?_
      refine lv_bipush (v := 24) hx hb dX9_offer_155 (by decide) ?_
      refine lv_iload hx hb dX9_offer_157 (lv_at hl 4 rfl) ?_
      refine lv_imul hx hb dX9_offer_159 ?_
      refine lv_iload hx hb dX9_offer_160 (lv_at hl 5 rfl) ?_
      refine lv_iadd hx hb dX9_offer_162 ?_
      refine lr_aload_n hx hb dX9_offer_163 rfl (lv_at hl 0 rfl) ?_
      obtain ⟨t3, e_t3, h⟩ := bn h
      refine gf_X9_60 hC hG hM e_t3 dX9_offer_164 ?_
      refine lv_bipush (v := 24) hx hb dX9_offer_167 (by decide) ?_
      refine lv_iload_n hx hb dX9_offer_169 rfl (lv_at hl 1 rfl) ?_
      refine lv_imul hx hb dX9_offer_170 ?_
      refine lv_iload hx hb dX9_offer_171 (lv_at hl 5 rfl) ?_
      refine lv_iadd hx hb dX9_offer_173 ?_
      obtain ⟨t4, e_t4, h⟩ := bn h
      refine g_iald hx hb hG hM e_t4 dX9_offer_174 ?_
      obtain ⟨m5, e_m5, h⟩ := bn h
      refine g_iast hx hb hG hM e_m5 dX9_offer_175 (fun H locs hM => ?_)
      obtain ⟨t6, e_t6, h⟩ := bd_elim h
      refine lv_iinc (v := t6) (lv' := [(9, .int t6), (0, va_rf (Option.map ad (some o0))), (1, .int x1), (2, .int x2), (4, .int x4), (7, .int x7)]) hx hb dX9_offer_176 hl (k := 5) rfl (by rw [e_t6]; rfl) (by decide) (by first | rfl | simp [va_cat]) (fun ls hl => ?_)
      refine lv_goto (tgt := 144) hx hb dX9_offer_179 (by decide) ?_
      exact ih _ _ _ _ _ _ _ _ _ _ h hM (lv_sub hl [1, 2, 3, 4, 5, 0] rfl)
def fX9_offer_b126  (o0 : Nat) (x1 : Int32) (x2 : Int32) (x4 : Int32) (x5 : Int64) (x7 : Int32) (x8 : Int32)  (σ : Mem) : Option (Mem) :=
  if x8 = 0 then some σ
    else (fR σ 9 30 (some o0)).bind fun t2 =>
      (wJ σ 12 t2 x7 x5).bind fun m3 =>
      fX9_offer_b144 FU o0 x1 x2 x4 x7 0 m3
set_option maxRecDepth 20000 in
theorem wX9_offer_b126 {σ' : Mem} (hC : CallFix p m c cX9_offer 10 s args WALL RX9) (hG : GS D cy A s) (hR : 1 ≤ R.frames ∧ 36 ≤ R.locals) (Kr : KrV p l e R s m args below meth c cX9_offer Q D cy ad A z () σ')  (o0 : Nat) (x1 : Int32) (x2 : Int32) (x4 : Int32) (x5 : Int64) (x7 : Int32) (x8 : Int32)  (σ : Mem) (H : Heap) (locs : List Loc) (ls : Array Slot) (h : fX9_offer_b126 o0 x1 x2 x4 x5 x7 x8 σ = some σ') (hM : MS D cy ad A s.heap z σ H locs) (hl : lv_has ls 10 [(0, va_rf (Option.map ad (some o0))), (1, .int x1), (2, .int x2), (4, .int x4), (5, .long x5), (7, .int x7), (8, .int x8)]) : W p l e R s m args below meth c H locs 0 0 Q (F0 m 126 ls []) := by
  have hx := hC.1
  have hb := hC.2.1
  unfold fX9_offer_b126 at h
  refine lv_iload hx hb dX9_offer_126 (lv_at hl 6 rfl) ?_
  refine lv_if_ne (tgt := 132) hx hb dX9_offer_128 (by decide) (fun c1 => ?_) (fun c1 => ?_)
  · rw [if_neg c1] at h
    refine lr_aload_n hx hb dX9_offer_132 rfl (lv_at hl 0 rfl) ?_
    obtain ⟨t2, e_t2, h⟩ := bn h
    refine gf_X9_57 hC hG hM e_t2 dX9_offer_133 ?_
    refine lv_iload hx hb dX9_offer_136 (lv_at hl 5 rfl) ?_
    refine lv_lload hx hb dX9_offer_138 (lv_at hl 4 rfl) ?_
    obtain ⟨m3, e_m3, h⟩ := bn h
    refine g_last hx hb hG hM e_m3 dX9_offer_140 (fun H locs hM => ?_)
    refine lv_iconst (v := 0) hx hb dX9_offer_141 (by decide) ?_
    refine lv_istore (lv' := [(9, .int 0), (0, va_rf (Option.map ad (some o0))), (1, .int x1), (2, .int x2), (4, .int x4), (5, .long x5), (7, .int x7), (8, .int x8)]) hx hb dX9_offer_142 hl (by decide) (by first | rfl | simp [va_cat]) (fun ls hl => ?_)
    exact wX9_offer_b144 hC hG hR Kr FU _ _ _ _ _ _ _ _ _ _ h hM (lv_sub hl [1, 2, 3, 4, 6, 0] rfl)
  · rw [if_pos c1] at h
    cases h
    exact Kr _ _ _ _ dX9_offer_131 hM
def fX9_offer_b124  (o0 : Nat) (x1 : Int32) (x2 : Int32) (x4 : Int32) (x5 : Int64) (x7 : Int32) (y0 : Int32) (σ : Mem) : Option (Mem) :=
  fX9_offer_b126 o0 x1 x2 x4 x5 x7 y0 σ
set_option maxRecDepth 20000 in
theorem wX9_offer_b124 {σ' : Mem} (hC : CallFix p m c cX9_offer 10 s args WALL RX9) (hG : GS D cy A s) (hR : 1 ≤ R.frames ∧ 36 ≤ R.locals) (Kr : KrV p l e R s m args below meth c cX9_offer Q D cy ad A z () σ')  (o0 : Nat) (x1 : Int32) (x2 : Int32) (x4 : Int32) (x5 : Int64) (x7 : Int32) (y0 : Int32) (σ : Mem) (H : Heap) (locs : List Loc) (ls : Array Slot) (h : fX9_offer_b124 o0 x1 x2 x4 x5 x7 y0 σ = some σ') (hM : MS D cy ad A s.heap z σ H locs) (hl : lv_has ls 10 [(0, va_rf (Option.map ad (some o0))), (1, .int x1), (2, .int x2), (4, .int x4), (5, .long x5), (7, .int x7)]) : W p l e R s m args below meth c H locs 0 0 Q (F0 m 124 ls [.int y0]) := by
  have hx := hC.1
  have hb := hC.2.1
  unfold fX9_offer_b124 at h
  refine lv_istore (lv' := [(8, .int y0), (0, va_rf (Option.map ad (some o0))), (1, .int x1), (2, .int x2), (4, .int x4), (5, .long x5), (7, .int x7)]) hx hb dX9_offer_124 hl (by decide) (by first | rfl | simp [va_cat]) (fun ls hl => ?_)
  exact wX9_offer_b126 hC hG hR Kr _ _ _ _ _ _ _ _ _ _ _ h hM (lv_sub hl [1, 2, 3, 4, 5, 6, 0] rfl)
def fX9_offer_b123  (o0 : Nat) (x1 : Int32) (x2 : Int32) (x4 : Int32) (x5 : Int64) (x7 : Int32)  (σ : Mem) : Option (Mem) :=
  fX9_offer_b124 o0 x1 x2 x4 x5 x7 0 σ
set_option maxRecDepth 20000 in
theorem wX9_offer_b123 {σ' : Mem} (hC : CallFix p m c cX9_offer 10 s args WALL RX9) (hG : GS D cy A s) (hR : 1 ≤ R.frames ∧ 36 ≤ R.locals) (Kr : KrV p l e R s m args below meth c cX9_offer Q D cy ad A z () σ')  (o0 : Nat) (x1 : Int32) (x2 : Int32) (x4 : Int32) (x5 : Int64) (x7 : Int32)  (σ : Mem) (H : Heap) (locs : List Loc) (ls : Array Slot) (h : fX9_offer_b123 o0 x1 x2 x4 x5 x7 σ = some σ') (hM : MS D cy ad A s.heap z σ H locs) (hl : lv_has ls 10 [(0, va_rf (Option.map ad (some o0))), (1, .int x1), (2, .int x2), (4, .int x4), (5, .long x5), (7, .int x7)]) : W p l e R s m args below meth c H locs 0 0 Q (F0 m 123 ls []) := by
  have hx := hC.1
  have hb := hC.2.1
  unfold fX9_offer_b123 at h
  refine lv_iconst (v := 0) hx hb dX9_offer_123 (by decide) ?_
  exact wX9_offer_b124 hC hG hR Kr _ _ _ _ _ _ _ _ _ _ _ h hM (lv_sub hl [0, 1, 2, 3, 4, 5] rfl)
def fX9_offer_b84  (o0 : Nat) (x1 : Int32) (x2 : Int32) (x4 : Int32) (x5 : Int64) (x7 : Int32) (x9 : Int32)  (σ : Mem) : Option (Mem) :=
  if x4 ≤ x9 then fX9_offer_b123 o0 x1 x2 x4 x5 x7 σ
    else (fR σ 9 31 (some o0)).bind fun t2 =>
      (aI σ 11 t2 ((24 * x1) + x9)).bind fun t3 =>
      (fR σ 9 32 (some o0)).bind fun t4 =>
      (aI σ 11 t4 ((24 * x7) + x9)).bind fun t5 =>
      if t5 ≤ t3 then fX9_offer_b123 o0 x1 x2 x4 x5 x7 σ
      else fX9_offer_b124 o0 x1 x2 x4 x5 x7 1 σ
set_option maxRecDepth 20000 in
theorem wX9_offer_b84 {σ' : Mem} (hC : CallFix p m c cX9_offer 10 s args WALL RX9) (hG : GS D cy A s) (hR : 1 ≤ R.frames ∧ 36 ≤ R.locals) (Kr : KrV p l e R s m args below meth c cX9_offer Q D cy ad A z () σ')  (o0 : Nat) (x1 : Int32) (x2 : Int32) (x4 : Int32) (x5 : Int64) (x7 : Int32) (x9 : Int32)  (σ : Mem) (H : Heap) (locs : List Loc) (ls : Array Slot) (h : fX9_offer_b84 o0 x1 x2 x4 x5 x7 x9 σ = some σ') (hM : MS D cy ad A s.heap z σ H locs) (hl : lv_has ls 10 [(0, va_rf (Option.map ad (some o0))), (1, .int x1), (2, .int x2), (4, .int x4), (5, .long x5), (7, .int x7), (9, .int x9)]) : W p l e R s m args below meth c H locs 0 0 Q (F0 m 84 ls []) := by
  have hx := hC.1
  have hb := hC.2.1
  unfold fX9_offer_b84 at h
  refine lv_iload hx hb dX9_offer_84 (lv_at hl 6 rfl) ?_
  refine lv_iload hx hb dX9_offer_86 (lv_at hl 3 rfl) ?_
  refine lv_icmp_ge (tgt := 123) hx hb dX9_offer_88 (by decide) (fun c1 => ?_) (fun c1 => ?_)
  · rw [if_pos c1] at h
    exact wX9_offer_b123 hC hG hR Kr _ _ _ _ _ _ _ _ _ _ h hM (lv_sub hl [0, 1, 2, 3, 4, 5] rfl)
  · rw [if_neg c1] at h
    refine lr_aload_n hx hb dX9_offer_91 rfl (lv_at hl 0 rfl) ?_
    obtain ⟨t2, e_t2, h⟩ := bn h
    refine gf_X9_60 hC hG hM e_t2 dX9_offer_92 ?_
    refine lv_bipush (v := 24) hx hb dX9_offer_95 (by decide) ?_
    refine lv_iload_n hx hb dX9_offer_97 rfl (lv_at hl 1 rfl) ?_
    refine lv_imul hx hb dX9_offer_98 ?_
    refine lv_iload hx hb dX9_offer_99 (lv_at hl 6 rfl) ?_
    refine lv_iadd hx hb dX9_offer_101 ?_
    obtain ⟨t3, e_t3, h⟩ := bn h
    refine g_iald hx hb hG hM e_t3 dX9_offer_102 ?_
    refine lr_aload_n hx hb dX9_offer_103 rfl (lv_at hl 0 rfl) ?_
    obtain ⟨t4, e_t4, h⟩ := bn h
    refine gf_X9_63 hC hG hM e_t4 dX9_offer_104 ?_
    refine lv_bipush (v := 24) hx hb dX9_offer_107 (by decide) ?_
    refine lv_iload hx hb dX9_offer_109 (lv_at hl 5 rfl) ?_
    refine lv_imul hx hb dX9_offer_111 ?_
    refine lv_iload hx hb dX9_offer_112 (lv_at hl 6 rfl) ?_
    refine lv_iadd hx hb dX9_offer_114 ?_
    obtain ⟨t5, e_t5, h⟩ := bn h
    refine g_iald hx hb hG hM e_t5 dX9_offer_115 ?_
    refine lv_icmp_ge (tgt := 123) hx hb dX9_offer_116 (by decide) (fun c6 => ?_) (fun c6 => ?_)
    · rw [if_pos c6] at h
      exact wX9_offer_b123 hC hG hR Kr _ _ _ _ _ _ _ _ _ _ h hM (lv_sub hl [0, 1, 2, 3, 4, 5] rfl)
    · rw [if_neg c6] at h
      refine lv_iconst (v := 1) hx hb dX9_offer_119 (by decide) ?_
      refine lv_goto (tgt := 124) hx hb dX9_offer_120 (by decide) ?_
      exact wX9_offer_b124 hC hG hR Kr _ _ _ _ _ _ _ _ _ _ _ h hM (lv_sub hl [0, 1, 2, 3, 4, 5] rfl)
def fX9_offer_b43  : Nat → Nat → Int32 → Int32 → Int32 → Int64 → Int32 → Int32 → Mem → Option (Mem)
  | 0, _, _, _, _, _, _, _, _ => none
  | n + 1, o0, x1, x2, x4, x5, x7, x9, σ =>
    if x4 ≤ x9 then fX9_offer_b84 o0 x1 x2 x4 x5 x7 x9 σ
      else (fR σ 9 31 (some o0)).bind fun t2 =>
        (aI σ 11 t2 ((24 * x1) + x9)).bind fun t3 =>
        (fR σ 9 32 (some o0)).bind fun t4 =>
        (aI σ 11 t4 ((24 * x7) + x9)).bind fun t5 =>
        if t3 = t5 then bd (x9 + 1) fun t7 =>
          (fX9_offer_b43 n) o0 x1 x2 x4 x5 x7 t7 σ
        else fX9_offer_b84 o0 x1 x2 x4 x5 x7 x9 σ
set_option maxRecDepth 20000 in
theorem wX9_offer_b43 {σ' : Mem} (hC : CallFix p m c cX9_offer 10 s args WALL RX9) (hG : GS D cy A s) (hR : 1 ≤ R.frames ∧ 36 ≤ R.locals) (Kr : KrV p l e R s m args below meth c cX9_offer Q D cy ad A z () σ')  : ∀ (n : Nat) (o0 : Nat) (x1 : Int32) (x2 : Int32) (x4 : Int32) (x5 : Int64) (x7 : Int32) (x9 : Int32)  (σ : Mem) (H : Heap) (locs : List Loc) (ls : Array Slot), fX9_offer_b43 n o0 x1 x2 x4 x5 x7 x9 σ = some σ' → MS D cy ad A s.heap z σ H locs → lv_has ls 10 [(0, va_rf (Option.map ad (some o0))), (1, .int x1), (2, .int x2), (4, .int x4), (5, .long x5), (7, .int x7), (9, .int x9)] → W p l e R s m args below meth c H locs 0 0 Q (F0 m 43 ls []) := by
  have hx := hC.1
  have hb := hC.2.1
  intro n
  induction n with
  | zero =>
    intro o0 x1 x2 x4 x5 x7 x9 σ H locs ls h
    cases h
  | succ n ih =>
    intro o0 x1 x2 x4 x5 x7 x9 σ H locs ls h hM hl
    rw [fX9_offer_b43] at h
    refine lv_iload hx hb dX9_offer_43 (lv_at hl 6 rfl) ?_
    refine lv_iload hx hb dX9_offer_45 (lv_at hl 3 rfl) ?_
    refine lv_icmp_ge (tgt := 84) hx hb dX9_offer_47 (by decide) (fun c1 => ?_) (fun c1 => ?_)
    · rw [if_pos c1] at h
      exact wX9_offer_b84 hC hG hR Kr _ _ _ _ _ _ _ _ _ _ _ h hM (lv_sub hl [0, 1, 2, 3, 4, 5, 6] rfl)
    · rw [if_neg c1] at h
      refine lr_aload_n hx hb dX9_offer_50 rfl (lv_at hl 0 rfl) ?_
      obtain ⟨t2, e_t2, h⟩ := bn h
      refine gf_X9_60 hC hG hM e_t2 dX9_offer_51 ?_
      refine lv_bipush (v := 24) hx hb dX9_offer_54 (by decide) ?_
      refine lv_iload_n hx hb dX9_offer_56 rfl (lv_at hl 1 rfl) ?_
      refine lv_imul hx hb dX9_offer_57 ?_
      refine lv_iload hx hb dX9_offer_58 (lv_at hl 6 rfl) ?_
      refine lv_iadd hx hb dX9_offer_60 ?_
      obtain ⟨t3, e_t3, h⟩ := bn h
      refine g_iald hx hb hG hM e_t3 dX9_offer_61 ?_
      refine lr_aload_n hx hb dX9_offer_62 rfl (lv_at hl 0 rfl) ?_
      obtain ⟨t4, e_t4, h⟩ := bn h
      refine gf_X9_63 hC hG hM e_t4 dX9_offer_63 ?_
      refine lv_bipush (v := 24) hx hb dX9_offer_66 (by decide) ?_
      refine lv_iload hx hb dX9_offer_68 (lv_at hl 5 rfl) ?_
      refine lv_imul hx hb dX9_offer_70 ?_
      refine lv_iload hx hb dX9_offer_71 (lv_at hl 6 rfl) ?_
      refine lv_iadd hx hb dX9_offer_73 ?_
      obtain ⟨t5, e_t5, h⟩ := bn h
      refine g_iald hx hb hG hM e_t5 dX9_offer_74 ?_
      refine lv_icmp_ne (tgt := 84) hx hb dX9_offer_75 (by decide) (fun c6 => ?_) (fun c6 => ?_)
      · rw [if_neg c6] at h
        exact wX9_offer_b84 hC hG hR Kr _ _ _ _ _ _ _ _ _ _ _ h hM (lv_sub hl [0, 1, 2, 3, 4, 5, 6] rfl)
      · rw [if_pos c6] at h
        obtain ⟨t7, e_t7, h⟩ := bd_elim h
        refine lv_iinc (v := t7) (lv' := [(9, .int t7), (0, va_rf (Option.map ad (some o0))), (1, .int x1), (2, .int x2), (4, .int x4), (5, .long x5), (7, .int x7)]) hx hb dX9_offer_78 hl (k := 6) rfl (by rw [e_t7]; rfl) (by decide) (by first | rfl | simp [va_cat]) (fun ls hl => ?_)
        refine lv_goto (tgt := 43) hx hb dX9_offer_81 (by decide) ?_
        exact ih _ _ _ _ _ _ _ _ _ _ _ h hM (lv_sub hl [1, 2, 3, 4, 5, 6, 0] rfl)
def fX9_offer_b25  (o0 : Nat) (x1 : Int32) (x2 : Int32) (x4 : Int32) (x5 : Int64) (x7 : Int32) (y0 : Int32) (σ : Mem) : Option (Mem) :=
  (fR σ 9 30 (some o0)).bind fun t1 =>
    (aJ σ 12 t1 x7).bind fun t2 =>
    if x5 = t2 then fX9_offer_b43 FU o0 x1 x2 x4 x5 x7 0 σ
    else fX9_offer_b126 o0 x1 x2 x4 x5 x7 y0 σ
set_option maxRecDepth 20000 in
theorem wX9_offer_b25 {σ' : Mem} (hC : CallFix p m c cX9_offer 10 s args WALL RX9) (hG : GS D cy A s) (hR : 1 ≤ R.frames ∧ 36 ≤ R.locals) (Kr : KrV p l e R s m args below meth c cX9_offer Q D cy ad A z () σ')  (o0 : Nat) (x1 : Int32) (x2 : Int32) (x4 : Int32) (x5 : Int64) (x7 : Int32) (y0 : Int32) (σ : Mem) (H : Heap) (locs : List Loc) (ls : Array Slot) (h : fX9_offer_b25 o0 x1 x2 x4 x5 x7 y0 σ = some σ') (hM : MS D cy ad A s.heap z σ H locs) (hl : lv_has ls 10 [(0, va_rf (Option.map ad (some o0))), (1, .int x1), (2, .int x2), (4, .int x4), (5, .long x5), (7, .int x7)]) : W p l e R s m args below meth c H locs 0 0 Q (F0 m 25 ls [.int y0]) := by
  have hx := hC.1
  have hb := hC.2.1
  unfold fX9_offer_b25 at h
  refine lv_istore (lv' := [(8, .int y0), (0, va_rf (Option.map ad (some o0))), (1, .int x1), (2, .int x2), (4, .int x4), (5, .long x5), (7, .int x7)]) hx hb dX9_offer_25 hl (by decide) (by first | rfl | simp [va_cat]) (fun ls hl => ?_)
  refine lv_lload hx hb dX9_offer_27 (lv_at hl 5 rfl) ?_
  refine lr_aload_n hx hb dX9_offer_29 rfl (lv_at hl 1 rfl) ?_
  obtain ⟨t1, e_t1, h⟩ := bn h
  refine gf_X9_57 hC hG hM e_t1 dX9_offer_30 ?_
  refine lv_iload hx hb dX9_offer_33 (lv_at hl 6 rfl) ?_
  obtain ⟨t2, e_t2, h⟩ := bn h
  refine g_lald hx hb hG hM e_t2 dX9_offer_35 ?_
  refine lc_ne (tgt := 126) hx hb dX9_offer_36 dX9_offer_37 (by decide) (fun c3 => ?_) (fun c3 => ?_)
  · rw [if_neg c3] at h
    exact wX9_offer_b126 hC hG hR Kr _ _ _ _ _ _ _ _ _ _ _ h hM (lv_sub hl [1, 2, 3, 4, 5, 6, 0] rfl)
  · rw [if_pos c3] at h
    refine lv_iconst (v := 0) hx hb dX9_offer_40 (by decide) ?_
    refine lv_istore (lv' := [(9, .int 0), (8, .int y0), (0, va_rf (Option.map ad (some o0))), (1, .int x1), (2, .int x2), (4, .int x4), (5, .long x5), (7, .int x7)]) hx hb dX9_offer_41 hl (by decide) (by first | rfl | simp [va_cat]) (fun ls hl => ?_)
    exact wX9_offer_b43 hC hG hR Kr FU _ _ _ _ _ _ _ _ _ _ _ h hM (lv_sub hl [2, 3, 4, 5, 6, 7, 0] rfl)
def fX9_offer (o0 : Nat) (x1 : Int32) (x2 : Int32) (x3 : Int32) (x4 : Int32) (x5 : Int64) (σ : Mem) : Option (Mem) :=
  b2 (fX9_state x2 x3 σ) fun t1 m2 =>
    (fR m2 9 30 (some o0)).bind fun t3 =>
    (aJ m2 12 t3 t1).bind fun t4 =>
    if t4 ≤ x5 then fX9_offer_b25 o0 x1 x2 x4 x5 t1 0 m2
    else fX9_offer_b25 o0 x1 x2 x4 x5 t1 1 m2
set_option maxRecDepth 20000 in
theorem wX9_offer {σ' : Mem} (hC : CallFix p m c cX9_offer 10 s args WALL RX9) (hG : GS D cy A s) (hR : 1 ≤ R.frames ∧ 36 ≤ R.locals) (Kr : KrV p l e R s m args below meth c cX9_offer Q D cy ad A z () σ') (o0 : Nat) (x1 : Int32) (x2 : Int32) (x3 : Int32) (x4 : Int32) (x5 : Int64) (σ : Mem) (H : Heap) (locs : List Loc) (ls : Array Slot) (h : fX9_offer o0 x1 x2 x3 x4 x5 σ = some σ') (hM : MS D cy ad A s.heap z σ H locs) (hl : lv_has ls 10 [(0, va_rf (Option.map ad (some o0))), (1, .int x1), (2, .int x2), (3, .int x3), (4, .int x4), (5, .long x5)]) : W p l e R s m args below meth c H locs 0 0 Q (F0 m 0 ls []) := by
  have hx := hC.1
  have hb := hC.2.1
  unfold fX9_offer at h
  refine lv_iload_n hx hb dX9_offer_0 rfl (lv_at hl 2 rfl) ?_
  refine lv_iload_n hx hb dX9_offer_1 rfl (lv_at hl 3 rfl) ?_
  obtain ⟨t1, m2, e_m2, h⟩ := b2_elim h
  refine cs_X9_254 hC hG hM (cX9_state_ok e_m2) ⟨by omega, by omega⟩ hl.1 (by first | exact Nat.le_of_ble_eq_true rfl | simp [va_cat, vcI, vcL, vcR]) dX9_offer_2 (fun H locs hM => ?_)
  refine lv_istore (lv' := [(7, .int t1), (0, va_rf (Option.map ad (some o0))), (1, .int x1), (2, .int x2), (3, .int x3), (4, .int x4), (5, .long x5)]) hx hb dX9_offer_5 hl (by decide) (by first | rfl | simp [va_cat]) (fun ls hl => ?_)
  refine lv_lload hx hb dX9_offer_7 (lv_at hl 6 rfl) ?_
  refine lr_aload_n hx hb dX9_offer_9 rfl (lv_at hl 1 rfl) ?_
  obtain ⟨t3, e_t3, h⟩ := bn h
  refine gf_X9_57 hC hG hM e_t3 dX9_offer_10 ?_
  refine lv_iload hx hb dX9_offer_13 (lv_at hl 0 rfl) ?_
  obtain ⟨t4, e_t4, h⟩ := bn h
  refine g_lald hx hb hG hM e_t4 dX9_offer_15 ?_
  refine lc_ge (tgt := 24) hx hb dX9_offer_16 dX9_offer_17 (by decide) (fun c5 => ?_) (fun c5 => ?_)
  · rw [if_pos c5] at h
    refine lv_iconst (v := 0) hx hb dX9_offer_24 (by decide) ?_
    exact wX9_offer_b25 hC hG hR Kr _ _ _ _ _ _ _ _ _ _ _ h hM (lv_sub hl [1, 2, 3, 5, 6, 0] rfl)
  · rw [if_neg c5] at h
    refine lv_iconst (v := 1) hx hb dX9_offer_20 (by decide) ?_
    refine lv_goto (tgt := 25) hx hb dX9_offer_21 (by decide) ?_
    exact wX9_offer_b25 hC hG hR Kr _ _ _ _ _ _ _ _ _ _ _ h hM (lv_sub hl [1, 2, 3, 5, 6, 0] rfl)
theorem cX9_offer_ok {l : Launch} {D : va_G} {cy : Nat → ClassId} {ad : Nat → Nat} {A : Nat → Prop} {z : Nat} {σ' : Mem} {o0 : Nat} {x1 : Int32} {x2 : Int32} {x3 : Int32} {x4 : Int32} {x5 : Int64} {σ : Mem} (h : fX9_offer o0 x1 x2 x3 x4 x5 σ = some σ') : CtV l yX9_offer cX9_offer 10 none 1 [.ref (ad o0), .int x1, .int x2, .int x3, .int x4, .long x5] D cy ad A z σ () σ' :=
  enterV (own := RX9) (by decide) rfl (Nat.le_of_ble_eq_true rfl) rfl (fun p e s m below meth c Q ls hC hG hM Kr hl => wX9_offer hC hG ⟨Nat.le_refl _, Nat.le_refl _⟩ Kr _ _ _ _ _ _ _ _ _ _ h hM hl)
/-! X9_plan (II)I -/
def fX9_plan_b121   (y0 : Int32) (σ : Mem) : Option (Int32 × Mem) :=
  some (y0, σ)
set_option maxRecDepth 20000 in
theorem wX9_plan_b121 {r : Int32} {σ' : Mem} (hC : CallFix p m c cX9_plan 5 s args WALL RX9) (hG : GS D cy A s) (hR : 1 ≤ R.frames ∧ 36 ≤ R.locals) (Kr : KrI p l e R s m args below meth c cX9_plan Q D cy ad A z r σ')   (y0 : Int32) (σ : Mem) (H : Heap) (locs : List Loc) (ls : Array Slot) (h : fX9_plan_b121 y0 σ = some (r, σ')) (hM : MS D cy ad A s.heap z σ H locs) (hl : lv_has ls 5 []) : W p l e R s m args below meth c H locs 0 0 Q (F0 m 121 ls [.int y0]) := by
  have hx := hC.1
  have hb := hC.2.1
  unfold fX9_plan_b121 at h
  obtain ⟨rfl, rfl⟩ := Prod.mk.inj (Option.some.inj h)
  exact Kr _ _ _ _ dX9_plan_121 hM
def fX9_plan_b65  (o0 : Nat) (x1 : Int32) (x2 : Int32) (x3 : Int32)  (σ : Mem) : Option (Int32 × Mem) :=
  if x2 = 0 then (fR σ 9 12 (some o0)).bind fun t11 =>
      (aI σ 11 t11 x1).bind fun t12 =>
      fX9_plan_b121 t12 σ
    else if x2 = 1 then (fR σ 9 13 (some o0)).bind fun t9 =>
        (aI σ 11 t9 x1).bind fun t10 =>
        fX9_plan_b121 t10 σ
      else if x2 = 2 then (fR σ 9 14 (some o0)).bind fun t7 =>
          (aI σ 11 t7 x1).bind fun t8 =>
          fX9_plan_b121 t8 σ
        else if x2 = 3 then (fR σ 9 15 (some o0)).bind fun t5 =>
            (aI σ 11 t5 x1).bind fun t6 =>
            fX9_plan_b121 t6 σ
          else fX9_plan_b121 x3 σ
set_option maxRecDepth 20000 in
theorem wX9_plan_b65 {r : Int32} {σ' : Mem} (hC : CallFix p m c cX9_plan 5 s args WALL RX9) (hG : GS D cy A s) (hR : 1 ≤ R.frames ∧ 36 ≤ R.locals) (Kr : KrI p l e R s m args below meth c cX9_plan Q D cy ad A z r σ')  (o0 : Nat) (x1 : Int32) (x2 : Int32) (x3 : Int32)  (σ : Mem) (H : Heap) (locs : List Loc) (ls : Array Slot) (h : fX9_plan_b65 o0 x1 x2 x3 σ = some (r, σ')) (hM : MS D cy ad A s.heap z σ H locs) (hl : lv_has ls 5 [(0, va_rf (Option.map ad (some o0))), (1, .int x1), (2, .int x2), (3, .int x3)]) : W p l e R s m args below meth c H locs 0 0 Q (F0 m 65 ls []) := by
  have hx := hC.1
  have hb := hC.2.1
  unfold fX9_plan_b65 at h
  refine lv_iload_n hx hb dX9_plan_65 rfl (lv_at hl 2 rfl) ?_
  refine lv_if_ne (tgt := 78) hx hb dX9_plan_66 (by decide) (fun c1 => ?_) (fun c1 => ?_)
  · rw [if_neg c1] at h
    refine lv_iload_n hx hb dX9_plan_78 rfl (lv_at hl 2 rfl) ?_
    refine lv_iconst (v := 1) hx hb dX9_plan_79 (by decide) ?_
    refine lv_icmp_ne (tgt := 92) hx hb dX9_plan_80 (by decide) (fun c2 => ?_) (fun c2 => ?_)
    · rw [if_neg c2] at h
      refine lv_iload_n hx hb dX9_plan_92 rfl (lv_at hl 2 rfl) ?_
      refine lv_iconst (v := 2) hx hb dX9_plan_93 (by decide) ?_
      refine lv_icmp_ne (tgt := 106) hx hb dX9_plan_94 (by decide) (fun c3 => ?_) (fun c3 => ?_)
      · rw [if_neg c3] at h
        refine lv_iload_n hx hb dX9_plan_106 rfl (lv_at hl 2 rfl) ?_
        refine lv_iconst (v := 3) hx hb dX9_plan_107 (by decide) ?_
        refine lv_icmp_ne (tgt := 120) hx hb dX9_plan_108 (by decide) (fun c4 => ?_) (fun c4 => ?_)
        · rw [if_neg c4] at h
          refine lv_iload_n hx hb dX9_plan_120 rfl (lv_at hl 3 rfl) ?_
          exact wX9_plan_b121 hC hG hR Kr _ _ _ _ _ h hM (lv_sub hl [] rfl)
        · rw [if_pos c4] at h
          refine lr_aload_n hx hb dX9_plan_111 rfl (lv_at hl 0 rfl) ?_
          obtain ⟨t5, e_t5, h⟩ := bn h
          refine gf_X9_26 hC hG hM e_t5 dX9_plan_112 ?_
          refine lv_iload_n hx hb dX9_plan_115 rfl (lv_at hl 1 rfl) ?_
          obtain ⟨t6, e_t6, h⟩ := bn h
          refine g_iald hx hb hG hM e_t6 dX9_plan_116 ?_
          refine lv_goto (tgt := 121) hx hb dX9_plan_117 (by decide) ?_
          exact wX9_plan_b121 hC hG hR Kr _ _ _ _ _ h hM (lv_sub hl [] rfl)
      · rw [if_pos c3] at h
        refine lr_aload_n hx hb dX9_plan_97 rfl (lv_at hl 0 rfl) ?_
        obtain ⟨t7, e_t7, h⟩ := bn h
        refine gf_X9_23 hC hG hM e_t7 dX9_plan_98 ?_
        refine lv_iload_n hx hb dX9_plan_101 rfl (lv_at hl 1 rfl) ?_
        obtain ⟨t8, e_t8, h⟩ := bn h
        refine g_iald hx hb hG hM e_t8 dX9_plan_102 ?_
        refine lv_goto (tgt := 121) hx hb dX9_plan_103 (by decide) ?_
        exact wX9_plan_b121 hC hG hR Kr _ _ _ _ _ h hM (lv_sub hl [] rfl)
    · rw [if_pos c2] at h
      refine lr_aload_n hx hb dX9_plan_83 rfl (lv_at hl 0 rfl) ?_
      obtain ⟨t9, e_t9, h⟩ := bn h
      refine gf_X9_20 hC hG hM e_t9 dX9_plan_84 ?_
      refine lv_iload_n hx hb dX9_plan_87 rfl (lv_at hl 1 rfl) ?_
      obtain ⟨t10, e_t10, h⟩ := bn h
      refine g_iald hx hb hG hM e_t10 dX9_plan_88 ?_
      refine lv_goto (tgt := 121) hx hb dX9_plan_89 (by decide) ?_
      exact wX9_plan_b121 hC hG hR Kr _ _ _ _ _ h hM (lv_sub hl [] rfl)
  · rw [if_pos c1] at h
    refine lr_aload_n hx hb dX9_plan_69 rfl (lv_at hl 0 rfl) ?_
    obtain ⟨t11, e_t11, h⟩ := bn h
    refine gf_X9_17 hC hG hM e_t11 dX9_plan_70 ?_
    refine lv_iload_n hx hb dX9_plan_73 rfl (lv_at hl 1 rfl) ?_
    obtain ⟨t12, e_t12, h⟩ := bn h
    refine g_iald hx hb hG hM e_t12 dX9_plan_74 ?_
    refine lv_goto (tgt := 121) hx hb dX9_plan_75 (by decide) ?_
    exact wX9_plan_b121 hC hG hR Kr _ _ _ _ _ h hM (lv_sub hl [] rfl)
def fX9_plan_b59 (rc32 : Nat → Int32 → Int32 → Int32 → Int32 → Mem → Option (Int32 × Mem)) (o0 : Nat) (x1 : Int32) (x2 : Int32) (x3 : Int32) (x4 : Int32)  (σ : Mem) : Option (Int32 × Mem) :=
  bd (x4 + 1) fun t1 =>
    rc32 o0 x1 x2 x3 t1 σ
set_option maxRecDepth 20000 in
theorem wX9_plan_b59 {r : Int32} {σ' : Mem} (hC : CallFix p m c cX9_plan 5 s args WALL RX9) (hG : GS D cy A s) (hR : 1 ≤ R.frames ∧ 36 ≤ R.locals) (Kr : KrI p l e R s m args below meth c cX9_plan Q D cy ad A z r σ') {rc32 : Nat → Int32 → Int32 → Int32 → Int32 → Mem → Option (Int32 × Mem)} (Kc32 : ∀ (o0 : Nat) (x1 : Int32) (x2 : Int32) (x3 : Int32) (x4 : Int32) (τ : Mem) (H : Heap) (locs : List Loc) (ls : Array Slot), rc32 o0 x1 x2 x3 x4 τ = some (r, σ') → MS D cy ad A s.heap z τ H locs → lv_has ls 5 [(0, va_rf (Option.map ad (some o0))), (1, .int x1), (2, .int x2), (3, .int x3), (4, .int x4)] → W p l e R s m args below meth c H locs 0 0 Q (F0 m 32 ls [])) (o0 : Nat) (x1 : Int32) (x2 : Int32) (x3 : Int32) (x4 : Int32)  (σ : Mem) (H : Heap) (locs : List Loc) (ls : Array Slot) (h : fX9_plan_b59 rc32 o0 x1 x2 x3 x4 σ = some (r, σ')) (hM : MS D cy ad A s.heap z σ H locs) (hl : lv_has ls 5 [(0, va_rf (Option.map ad (some o0))), (1, .int x1), (2, .int x2), (3, .int x3), (4, .int x4)]) : W p l e R s m args below meth c H locs 0 0 Q (F0 m 59 ls []) := by
  have hx := hC.1
  have hb := hC.2.1
  unfold fX9_plan_b59 at h
  obtain ⟨t1, e_t1, h⟩ := bd_elim h
  refine lv_iinc (v := t1) (lv' := [(4, .int t1), (0, va_rf (Option.map ad (some o0))), (1, .int x1), (2, .int x2), (3, .int x3)]) hx hb dX9_plan_59 hl (k := 4) rfl (by rw [e_t1]; rfl) (by decide) (by first | rfl | simp [va_cat]) (fun ls hl => ?_)
  refine lv_goto (tgt := 32) hx hb dX9_plan_62 (by decide) ?_
  exact Kc32 _ _ _ _ _ _ _ _ _ h hM (lv_sub hl [1, 2, 3, 4, 0] rfl)
def fX9_plan_b32  : Nat → Nat → Int32 → Int32 → Int32 → Int32 → Mem → Option (Int32 × Mem)
  | 0, _, _, _, _, _, _ => none
  | n + 1, o0, x1, x2, x3, x4, σ =>
    if 4 ≤ x4 then fX9_plan_b65 o0 x1 x2 x3 σ
      else (fR σ 9 16 (some o0)).bind fun t2 =>
        (aI σ 13 t2 ((4 * x1) + x4)).bind fun t3 =>
        if t3 = 0 then fX9_plan_b59 (fX9_plan_b32 n) o0 x1 x2 x3 x4 σ
        else bd (x3 ||| (1 <<< (x4 &&& 31))) fun t5 =>
          fX9_plan_b59 (fX9_plan_b32 n) o0 x1 x2 t5 x4 σ
set_option maxRecDepth 20000 in
theorem wX9_plan_b32 {r : Int32} {σ' : Mem} (hC : CallFix p m c cX9_plan 5 s args WALL RX9) (hG : GS D cy A s) (hR : 1 ≤ R.frames ∧ 36 ≤ R.locals) (Kr : KrI p l e R s m args below meth c cX9_plan Q D cy ad A z r σ')  : ∀ (n : Nat) (o0 : Nat) (x1 : Int32) (x2 : Int32) (x3 : Int32) (x4 : Int32)  (σ : Mem) (H : Heap) (locs : List Loc) (ls : Array Slot), fX9_plan_b32 n o0 x1 x2 x3 x4 σ = some (r, σ') → MS D cy ad A s.heap z σ H locs → lv_has ls 5 [(0, va_rf (Option.map ad (some o0))), (1, .int x1), (2, .int x2), (3, .int x3), (4, .int x4)] → W p l e R s m args below meth c H locs 0 0 Q (F0 m 32 ls []) := by
  have hx := hC.1
  have hb := hC.2.1
  intro n
  induction n with
  | zero =>
    intro o0 x1 x2 x3 x4 σ H locs ls h
    cases h
  | succ n ih =>
    intro o0 x1 x2 x3 x4 σ H locs ls h hM hl
    rw [fX9_plan_b32] at h
    refine lv_iload hx hb dX9_plan_32 (lv_at hl 4 rfl) ?_
    refine lv_iconst (v := 4) hx hb dX9_plan_34 (by decide) ?_
    refine lv_icmp_ge (tgt := 65) hx hb dX9_plan_35 (by decide) (fun c1 => ?_) (fun c1 => ?_)
    · rw [if_pos c1] at h
      exact wX9_plan_b65 hC hG hR Kr _ _ _ _ _ _ _ _ h hM (lv_sub hl [0, 1, 2, 3] rfl)
    · rw [if_neg c1] at h
      refine lr_aload_n hx hb dX9_plan_38 rfl (lv_at hl 0 rfl) ?_
      obtain ⟨t2, e_t2, h⟩ := bn h
      refine gf_X9_29 hC hG hM e_t2 dX9_plan_39 ?_
      refine lv_iconst (v := 4) hx hb dX9_plan_42 (by decide) ?_
      refine lv_iload_n hx hb dX9_plan_43 rfl (lv_at hl 1 rfl) ?_
      refine lv_imul hx hb dX9_plan_44 ?_
      refine lv_iload hx hb dX9_plan_45 (lv_at hl 4 rfl) ?_
      refine lv_iadd hx hb dX9_plan_47 ?_
      obtain ⟨t3, e_t3, h⟩ := bn h
      refine g_zald hx hb hG hM e_t3 dX9_plan_48 ?_
      refine lv_if_eq (tgt := 59) hx hb dX9_plan_49 (by decide) (fun c4 => ?_) (fun c4 => ?_)
      · rw [if_pos c4] at h
        exact wX9_plan_b59 hC hG hR Kr ih _ _ _ _ _ _ _ _ _ h hM (lv_sub hl [0, 1, 2, 3, 4] rfl)
      · rw [if_neg c4] at h
        refine lv_iload_n hx hb dX9_plan_52 rfl (lv_at hl 3 rfl) ?_
        refine lv_iconst (v := 1) hx hb dX9_plan_53 (by decide) ?_
        refine lv_iload hx hb dX9_plan_54 (lv_at hl 4 rfl) ?_
        refine lv_ishl hx hb dX9_plan_56 ?_
        refine lv_ior hx hb dX9_plan_57 ?_
        obtain ⟨t5, e_t5, h⟩ := bd_elim h
        refine lr_nmi e_t5 ?_
        refine lv_istore_n (lv' := [(3, .int t5), (0, va_rf (Option.map ad (some o0))), (1, .int x1), (2, .int x2), (4, .int x4)]) hx hb dX9_plan_58 rfl hl (by decide) (by first | rfl | simp [va_cat]) (fun ls hl => ?_)
        exact wX9_plan_b59 hC hG hR Kr ih _ _ _ _ _ _ _ _ _ h hM (lv_sub hl [1, 2, 3, 0, 4] rfl)
def fX9_plan_b17  (o0 : Nat)  (σ : Mem) : Option (Int32 × Mem) :=
  (kT σ 9 (some o0)).bind fun k1 =>
    b2 (fX9_refuse k1 σ) fun t2 m3 =>
    some (t2, m3)
set_option maxRecDepth 20000 in
theorem wX9_plan_b17 {r : Int32} {σ' : Mem} (hC : CallFix p m c cX9_plan 5 s args WALL RX9) (hG : GS D cy A s) (hR : 1 ≤ R.frames ∧ 36 ≤ R.locals) (Kr : KrI p l e R s m args below meth c cX9_plan Q D cy ad A z r σ')  (o0 : Nat)  (σ : Mem) (H : Heap) (locs : List Loc) (ls : Array Slot) (h : fX9_plan_b17 o0 σ = some (r, σ')) (hM : MS D cy ad A s.heap z σ H locs) (hl : lv_has ls 5 [(0, va_rf (Option.map ad (some o0)))]) : W p l e R s m args below meth c H locs 0 0 Q (F0 m 17 ls []) := by
  have hx := hC.1
  have hb := hC.2.1
  unfold fX9_plan_b17 at h
  refine lr_aload_n hx hb dX9_plan_17 rfl (lv_at hl 0 rfl) ?_
  obtain ⟨k1, e_k1, h⟩ := bn h
  obtain ⟨t2, m3, e_m3, h⟩ := b2_elim h
  refine cs_X9_217 e_k1 hC hG hM (cX9_refuse_ok e_m3) ⟨by omega, by omega⟩ hl.1 (by first | exact Nat.le_of_ble_eq_true rfl | simp [va_cat, vcI, vcL, vcR]) dX9_plan_18 (fun H locs hM => ?_)
  obtain ⟨rfl, rfl⟩ := Prod.mk.inj (Option.some.inj h)
  exact Kr _ _ _ _ dX9_plan_21 hM
def fX9_plan (o0 : Nat) (x1 : Int32) (x2 : Int32) (σ : Mem) : Option (Int32 × Mem) :=
  (kT σ 9 (some o0)).bind fun k1 =>
    b2 (fX9_isPlan k1 x1 σ) fun t2 m3 =>
    if t2 = 0 then fX9_plan_b17 o0 m3
    else if x2 < 0 then fX9_plan_b17 o0 m3
      else if x2 ≤ 4 then (pI m3 9 0 (some o0) 0).bind fun m7 =>
          fX9_plan_b32 FU o0 x1 x2 0 0 m7
        else fX9_plan_b17 o0 m3
set_option maxRecDepth 20000 in
theorem wX9_plan {r : Int32} {σ' : Mem} (hC : CallFix p m c cX9_plan 5 s args WALL RX9) (hG : GS D cy A s) (hR : 1 ≤ R.frames ∧ 36 ≤ R.locals) (Kr : KrI p l e R s m args below meth c cX9_plan Q D cy ad A z r σ') (o0 : Nat) (x1 : Int32) (x2 : Int32) (σ : Mem) (H : Heap) (locs : List Loc) (ls : Array Slot) (h : fX9_plan o0 x1 x2 σ = some (r, σ')) (hM : MS D cy ad A s.heap z σ H locs) (hl : lv_has ls 5 [(0, va_rf (Option.map ad (some o0))), (1, .int x1), (2, .int x2)]) : W p l e R s m args below meth c H locs 0 0 Q (F0 m 0 ls []) := by
  have hx := hC.1
  have hb := hC.2.1
  unfold fX9_plan at h
  refine lr_aload_n hx hb dX9_plan_0 rfl (lv_at hl 0 rfl) ?_
  refine lv_iload_n hx hb dX9_plan_1 rfl (lv_at hl 1 rfl) ?_
  obtain ⟨k1, e_k1, h⟩ := bn h
  obtain ⟨t2, m3, e_m3, h⟩ := b2_elim h
  refine cs_X9_214 e_k1 hC hG hM (cX9_isPlan_ok e_m3) ⟨by omega, by omega⟩ hl.1 (by first | exact Nat.le_of_ble_eq_true rfl | simp [va_cat, vcI, vcL, vcR]) dX9_plan_2 (fun H locs hM => ?_)
  refine lv_if_eq (tgt := 17) hx hb dX9_plan_5 (by decide) (fun c4 => ?_) (fun c4 => ?_)
  · rw [if_pos c4] at h
    exact wX9_plan_b17 hC hG hR Kr _ _ _ _ _ h hM (lv_sub hl [0] rfl)
  · rw [if_neg c4] at h
    refine lv_iload_n hx hb dX9_plan_8 rfl (lv_at hl 2 rfl) ?_
    refine lv_if_lt (tgt := 17) hx hb dX9_plan_9 (by decide) (fun c5 => ?_) (fun c5 => ?_)
    · rw [if_pos c5] at h
      exact wX9_plan_b17 hC hG hR Kr _ _ _ _ _ h hM (lv_sub hl [0] rfl)
    · rw [if_neg c5] at h
      refine lv_iload_n hx hb dX9_plan_12 rfl (lv_at hl 2 rfl) ?_
      refine lv_iconst (v := 4) hx hb dX9_plan_13 (by decide) ?_
      refine lv_icmp_le (tgt := 22) hx hb dX9_plan_14 (by decide) (fun c6 => ?_) (fun c6 => ?_)
      · rw [if_pos c6] at h
        refine lr_aload_n hx hb dX9_plan_22 rfl (lv_at hl 0 rfl) ?_
        refine lv_iconst (v := 0) hx hb dX9_plan_23 (by decide) ?_
        obtain ⟨m7, e_m7, h⟩ := bn h
        refine pf_X9_87 hC hG hM e_m7 dX9_plan_24 (fun H locs hM => ?_)
        refine lv_iconst (v := 0) hx hb dX9_plan_27 (by decide) ?_
        refine lv_istore_n (lv' := [(3, .int 0), (0, va_rf (Option.map ad (some o0))), (1, .int x1), (2, .int x2)]) hx hb dX9_plan_28 rfl hl (by decide) (by first | rfl | simp [va_cat]) (fun ls hl => ?_)
        refine lv_iconst (v := 0) hx hb dX9_plan_29 (by decide) ?_
        refine lv_istore (lv' := [(4, .int 0), (3, .int 0), (0, va_rf (Option.map ad (some o0))), (1, .int x1), (2, .int x2)]) hx hb dX9_plan_30 hl (by decide) (by first | rfl | simp [va_cat]) (fun ls hl => ?_)
        exact wX9_plan_b32 hC hG hR Kr FU _ _ _ _ _ _ _ _ _ h hM (lv_sub hl [2, 3, 4, 1, 0] rfl)
      · rw [if_neg c6] at h
        exact wX9_plan_b17 hC hG hR Kr _ _ _ _ _ h hM (lv_sub hl [0] rfl)
theorem cX9_plan_ok {l : Launch} {D : va_G} {cy : Nat → ClassId} {ad : Nat → Nat} {A : Nat → Prop} {z : Nat} {r : Int32} {σ' : Mem} {o0 : Nat} {x1 : Int32} {x2 : Int32} {σ : Mem} (h : fX9_plan o0 x1 x2 σ = some (r, σ')) : CtI l yX9_plan cX9_plan 5 (some .int) 1 [.ref (ad o0), .int x1, .int x2] D cy ad A z σ r σ' :=
  enterI (own := RX9) (by decide) rfl (Nat.le_of_ble_eq_true rfl) rfl (fun p e s m below meth c Q ls hC hG hM Kr hl => wX9_plan hC hG ⟨Nat.le_refl _, Nat.le_refl _⟩ Kr _ _ _ _ _ _ _ h hM hl)
/-! X9_span (III)Z -/
def fX9_span_b29    (σ : Mem) : Option (Int32 × Mem) :=
  some (0, σ)
set_option maxRecDepth 20000 in
theorem wX9_span_b29 {r : Int32} {σ' : Mem} (hC : CallFix p m c cX9_span 4 s args WALL RX9) (hG : GS D cy A s) (hR : 1 ≤ R.frames ∧ 36 ≤ R.locals) (Kr : KrZ p l e R s m args below meth c cX9_span Q D cy ad A z r σ')    (σ : Mem) (H : Heap) (locs : List Loc) (ls : Array Slot) (h : fX9_span_b29  σ = some (r, σ')) (hM : MS D cy ad A s.heap z σ H locs) (hl : lv_has ls 4 []) : W p l e R s m args below meth c H locs 0 0 Q (F0 m 29 ls []) := by
  have hx := hC.1
  have hb := hC.2.1
  unfold fX9_span_b29 at h
  refine lv_iconst (v := 0) hx hb dX9_span_29 (by decide) ?_
  cases h
  exact Kr _ _ _ _ dX9_span_30 rfl hM
def fX9_span (o0 : Nat) (x1 : Int32) (x2 : Int32) (x3 : Int32) (σ : Mem) : Option (Int32 × Mem) :=
  (pI σ 9 0 (some o0) 0).bind fun m1 =>
    b2 (fX9_isIn x1 4 m1) fun t2 m3 =>
    if t2 = 0 then fX9_span_b29 m3
    else if x2 < 0 then fX9_span_b29 m3
      else if x3 < x2 then fX9_span_b29 m3
        else if x3 ≤ 20000 then (fR m3 9 40 (some o0)).bind fun t8 =>
            (wI m3 11 t8 x1 x2).bind fun m9 =>
            (fR m9 9 41 (some o0)).bind fun t10 =>
            (wI m9 11 t10 x1 x3).bind fun m11 =>
            some (1, m11)
          else fX9_span_b29 m3
set_option maxRecDepth 20000 in
theorem wX9_span {r : Int32} {σ' : Mem} (hC : CallFix p m c cX9_span 4 s args WALL RX9) (hG : GS D cy A s) (hR : 1 ≤ R.frames ∧ 36 ≤ R.locals) (Kr : KrZ p l e R s m args below meth c cX9_span Q D cy ad A z r σ') (o0 : Nat) (x1 : Int32) (x2 : Int32) (x3 : Int32) (σ : Mem) (H : Heap) (locs : List Loc) (ls : Array Slot) (h : fX9_span o0 x1 x2 x3 σ = some (r, σ')) (hM : MS D cy ad A s.heap z σ H locs) (hl : lv_has ls 4 [(0, va_rf (Option.map ad (some o0))), (1, .int x1), (2, .int x2), (3, .int x3)]) : W p l e R s m args below meth c H locs 0 0 Q (F0 m 0 ls []) := by
  have hx := hC.1
  have hb := hC.2.1
  unfold fX9_span at h
  refine lr_aload_n hx hb dX9_span_0 rfl (lv_at hl 0 rfl) ?_
  refine lv_iconst (v := 0) hx hb dX9_span_1 (by decide) ?_
  obtain ⟨m1, e_m1, h⟩ := bn h
  refine pf_X9_87 hC hG hM e_m1 dX9_span_2 (fun H locs hM => ?_)
  refine lv_iload_n hx hb dX9_span_5 rfl (lv_at hl 1 rfl) ?_
  refine lv_iconst (v := 4) hx hb dX9_span_6 (by decide) ?_
  obtain ⟨t2, m3, e_m3, h⟩ := b2_elim h
  refine cs_X9_224 hC hG hM (cX9_isIn_ok e_m3) ⟨by omega, by omega⟩ hl.1 (by first | exact Nat.le_of_ble_eq_true rfl | simp [va_cat, vcI, vcL, vcR]) dX9_span_7 (fun H locs hM => ?_)
  refine lv_if_eq (tgt := 29) hx hb dX9_span_10 (by decide) (fun c4 => ?_) (fun c4 => ?_)
  · rw [if_pos c4] at h
    exact wX9_span_b29 hC hG hR Kr _ _ _ _ h hM (lv_sub hl [] rfl)
  · rw [if_neg c4] at h
    refine lv_iload_n hx hb dX9_span_13 rfl (lv_at hl 2 rfl) ?_
    refine lv_if_lt (tgt := 29) hx hb dX9_span_14 (by decide) (fun c5 => ?_) (fun c5 => ?_)
    · rw [if_pos c5] at h
      exact wX9_span_b29 hC hG hR Kr _ _ _ _ h hM (lv_sub hl [] rfl)
    · rw [if_neg c5] at h
      refine lv_iload_n hx hb dX9_span_17 rfl (lv_at hl 2 rfl) ?_
      refine lv_iload_n hx hb dX9_span_18 rfl (lv_at hl 3 rfl) ?_
      refine lv_icmp_gt (tgt := 29) hx hb dX9_span_19 (by decide) (fun c6 => ?_) (fun c6 => ?_)
      · rw [if_pos c6] at h
        exact wX9_span_b29 hC hG hR Kr _ _ _ _ h hM (lv_sub hl [] rfl)
      · rw [if_neg c6] at h
        refine lv_iload_n hx hb dX9_span_22 rfl (lv_at hl 3 rfl) ?_
        refine lv_sipush (v := 20000) hx hb dX9_span_23 (by decide) ?_
        refine lv_icmp_le (tgt := 31) hx hb dX9_span_26 (by decide) (fun c7 => ?_) (fun c7 => ?_)
        · rw [if_pos c7] at h
          refine lr_aload_n hx hb dX9_span_31 rfl (lv_at hl 0 rfl) ?_
          obtain ⟨t8, e_t8, h⟩ := bn h
          refine gf_X9_81 hC hG hM e_t8 dX9_span_32 ?_
          refine lv_iload_n hx hb dX9_span_35 rfl (lv_at hl 1 rfl) ?_
          refine lv_iload_n hx hb dX9_span_36 rfl (lv_at hl 2 rfl) ?_
          obtain ⟨m9, e_m9, h⟩ := bn h
          refine g_iast hx hb hG hM e_m9 dX9_span_37 (fun H locs hM => ?_)
          refine lr_aload_n hx hb dX9_span_38 rfl (lv_at hl 0 rfl) ?_
          obtain ⟨t10, e_t10, h⟩ := bn h
          refine gf_X9_84 hC hG hM e_t10 dX9_span_39 ?_
          refine lv_iload_n hx hb dX9_span_42 rfl (lv_at hl 1 rfl) ?_
          refine lv_iload_n hx hb dX9_span_43 rfl (lv_at hl 3 rfl) ?_
          obtain ⟨m11, e_m11, h⟩ := bn h
          refine g_iast hx hb hG hM e_m11 dX9_span_44 (fun H locs hM => ?_)
          refine lv_iconst (v := 1) hx hb dX9_span_45 (by decide) ?_
          cases h
          exact Kr _ _ _ _ dX9_span_46 rfl hM
        · rw [if_neg c7] at h
          exact wX9_span_b29 hC hG hR Kr _ _ _ _ h hM (lv_sub hl [] rfl)
theorem cX9_span_ok {l : Launch} {D : va_G} {cy : Nat → ClassId} {ad : Nat → Nat} {A : Nat → Prop} {z : Nat} {r : Int32} {σ' : Mem} {o0 : Nat} {x1 : Int32} {x2 : Int32} {x3 : Int32} {σ : Mem} (h : fX9_span o0 x1 x2 x3 σ = some (r, σ')) : CtI l yX9_span cX9_span 4 (some .boolean) 1 [.ref (ad o0), .int x1, .int x2, .int x3] D cy ad A z σ r σ' :=
  enterZ (own := RX9) (by decide) rfl (Nat.le_of_ble_eq_true rfl) rfl (fun p e s m below meth c Q ls hC hG hM Kr hl => wX9_span hC hG ⟨Nat.le_refl _, Nat.le_refl _⟩ Kr _ _ _ _ _ _ _ _ h hM hl)
/-! X9_together (III)I -/
def fX9_together_b45  (x4 : Int32)  (σ : Mem) : Option (Int32 × Mem) :=
  some (x4, σ)
set_option maxRecDepth 20000 in
theorem wX9_together_b45 {r : Int32} {σ' : Mem} (hC : CallFix p m c cX9_together 6 s args WALL RX9) (hG : GS D cy A s) (hR : 1 ≤ R.frames ∧ 36 ≤ R.locals) (Kr : KrI p l e R s m args below meth c cX9_together Q D cy ad A z r σ')  (x4 : Int32)  (σ : Mem) (H : Heap) (locs : List Loc) (ls : Array Slot) (h : fX9_together_b45 x4 σ = some (r, σ')) (hM : MS D cy ad A s.heap z σ H locs) (hl : lv_has ls 6 [(4, .int x4)]) : W p l e R s m args below meth c H locs 0 0 Q (F0 m 45 ls []) := by
  have hx := hC.1
  have hb := hC.2.1
  unfold fX9_together_b45 at h
  refine lv_iload hx hb dX9_together_45 (lv_at hl 0 rfl) ?_
  obtain ⟨rfl, rfl⟩ := Prod.mk.inj (Option.some.inj h)
  exact Kr _ _ _ _ dX9_together_47 hM
def fX9_together_b39 (rc6 : Nat → Int32 → Int32 → Int32 → Int32 → Int32 → Mem → Option (Int32 × Mem)) (o0 : Nat) (x1 : Int32) (x2 : Int32) (x3 : Int32) (x4 : Int32) (x5 : Int32)  (σ : Mem) : Option (Int32 × Mem) :=
  bd (x5 + 1) fun t1 =>
    rc6 o0 x1 x2 x3 x4 t1 σ
set_option maxRecDepth 20000 in
theorem wX9_together_b39 {r : Int32} {σ' : Mem} (hC : CallFix p m c cX9_together 6 s args WALL RX9) (hG : GS D cy A s) (hR : 1 ≤ R.frames ∧ 36 ≤ R.locals) (Kr : KrI p l e R s m args below meth c cX9_together Q D cy ad A z r σ') {rc6 : Nat → Int32 → Int32 → Int32 → Int32 → Int32 → Mem → Option (Int32 × Mem)} (Kc6 : ∀ (o0 : Nat) (x1 : Int32) (x2 : Int32) (x3 : Int32) (x4 : Int32) (x5 : Int32) (τ : Mem) (H : Heap) (locs : List Loc) (ls : Array Slot), rc6 o0 x1 x2 x3 x4 x5 τ = some (r, σ') → MS D cy ad A s.heap z τ H locs → lv_has ls 6 [(0, va_rf (Option.map ad (some o0))), (1, .int x1), (2, .int x2), (3, .int x3), (4, .int x4), (5, .int x5)] → W p l e R s m args below meth c H locs 0 0 Q (F0 m 6 ls [])) (o0 : Nat) (x1 : Int32) (x2 : Int32) (x3 : Int32) (x4 : Int32) (x5 : Int32)  (σ : Mem) (H : Heap) (locs : List Loc) (ls : Array Slot) (h : fX9_together_b39 rc6 o0 x1 x2 x3 x4 x5 σ = some (r, σ')) (hM : MS D cy ad A s.heap z σ H locs) (hl : lv_has ls 6 [(0, va_rf (Option.map ad (some o0))), (1, .int x1), (2, .int x2), (3, .int x3), (4, .int x4), (5, .int x5)]) : W p l e R s m args below meth c H locs 0 0 Q (F0 m 39 ls []) := by
  have hx := hC.1
  have hb := hC.2.1
  unfold fX9_together_b39 at h
  obtain ⟨t1, e_t1, h⟩ := bd_elim h
  refine lv_iinc (v := t1) (lv' := [(5, .int t1), (0, va_rf (Option.map ad (some o0))), (1, .int x1), (2, .int x2), (3, .int x3), (4, .int x4)]) hx hb dX9_together_39 hl (k := 5) rfl (by rw [e_t1]; rfl) (by decide) (by first | rfl | simp [va_cat]) (fun ls hl => ?_)
  refine lv_goto (tgt := 6) hx hb dX9_together_42 (by decide) ?_
  exact Kc6 _ _ _ _ _ _ _ _ _ _ h hM (lv_sub hl [1, 2, 3, 4, 5, 0] rfl)
def fX9_together_b6  : Nat → Nat → Int32 → Int32 → Int32 → Int32 → Int32 → Mem → Option (Int32 × Mem)
  | 0, _, _, _, _, _, _, _ => none
  | n + 1, o0, x1, x2, x3, x4, x5, σ =>
    if 4 ≤ x5 then fX9_together_b45 x4 σ
      else if ((x1 >>> (x5 &&& 31)) &&& 1) = 1 then (fR σ 9 27 (some o0)).bind fun t3 =>
          b2 (fX9_cell x5 x2 x3 σ) fun t4 m5 =>
          (aI m5 11 t3 t4).bind fun t6 =>
          bd (x4 + t6) fun t7 =>
          fX9_together_b39 (fX9_together_b6 n) o0 x1 x2 x3 t7 x5 m5
        else fX9_together_b39 (fX9_together_b6 n) o0 x1 x2 x3 x4 x5 σ
set_option maxRecDepth 20000 in
theorem wX9_together_b6 {r : Int32} {σ' : Mem} (hC : CallFix p m c cX9_together 6 s args WALL RX9) (hG : GS D cy A s) (hR : 1 ≤ R.frames ∧ 36 ≤ R.locals) (Kr : KrI p l e R s m args below meth c cX9_together Q D cy ad A z r σ')  : ∀ (n : Nat) (o0 : Nat) (x1 : Int32) (x2 : Int32) (x3 : Int32) (x4 : Int32) (x5 : Int32)  (σ : Mem) (H : Heap) (locs : List Loc) (ls : Array Slot), fX9_together_b6 n o0 x1 x2 x3 x4 x5 σ = some (r, σ') → MS D cy ad A s.heap z σ H locs → lv_has ls 6 [(0, va_rf (Option.map ad (some o0))), (1, .int x1), (2, .int x2), (3, .int x3), (4, .int x4), (5, .int x5)] → W p l e R s m args below meth c H locs 0 0 Q (F0 m 6 ls []) := by
  have hx := hC.1
  have hb := hC.2.1
  intro n
  induction n with
  | zero =>
    intro o0 x1 x2 x3 x4 x5 σ H locs ls h
    cases h
  | succ n ih =>
    intro o0 x1 x2 x3 x4 x5 σ H locs ls h hM hl
    rw [fX9_together_b6] at h
    refine lv_iload hx hb dX9_together_6 (lv_at hl 5 rfl) ?_
    refine lv_iconst (v := 4) hx hb dX9_together_8 (by decide) ?_
    refine lv_icmp_ge (tgt := 45) hx hb dX9_together_9 (by decide) (fun c1 => ?_) (fun c1 => ?_)
    · rw [if_pos c1] at h
      exact wX9_together_b45 hC hG hR Kr _ _ _ _ _ h hM (lv_sub hl [4] rfl)
    · rw [if_neg c1] at h
      refine lv_iload_n hx hb dX9_together_12 rfl (lv_at hl 1 rfl) ?_
      refine lv_iload hx hb dX9_together_13 (lv_at hl 5 rfl) ?_
      refine lv_ishr hx hb dX9_together_15 ?_
      refine lv_iconst (v := 1) hx hb dX9_together_16 (by decide) ?_
      refine lv_iand hx hb dX9_together_17 ?_
      refine lv_iconst (v := 1) hx hb dX9_together_18 (by decide) ?_
      refine lv_icmp_ne (tgt := 39) hx hb dX9_together_19 (by decide) (fun c2 => ?_) (fun c2 => ?_)
      · rw [if_neg c2] at h
        exact wX9_together_b39 hC hG hR Kr ih _ _ _ _ _ _ _ _ _ _ h hM (lv_sub hl [0, 1, 2, 3, 4, 5] rfl)
      · rw [if_pos c2] at h
        refine lv_iload hx hb dX9_together_22 (lv_at hl 4 rfl) ?_
        refine lr_aload_n hx hb dX9_together_24 rfl (lv_at hl 0 rfl) ?_
        obtain ⟨t3, e_t3, h⟩ := bn h
        refine gf_X9_51 hC hG hM e_t3 dX9_together_25 ?_
        refine lv_iload hx hb dX9_together_28 (lv_at hl 5 rfl) ?_
        refine lv_iload_n hx hb dX9_together_30 rfl (lv_at hl 2 rfl) ?_
        refine lv_iload_n hx hb dX9_together_31 rfl (lv_at hl 3 rfl) ?_
        obtain ⟨t4, m5, e_m5, h⟩ := b2_elim h
        refine cs_X9_227 hC hG hM (cX9_cell_ok e_m5) ⟨by omega, by omega⟩ hl.1 (by first | exact Nat.le_of_ble_eq_true rfl | simp [va_cat, vcI, vcL, vcR]) dX9_together_32 (fun H locs hM => ?_)
        obtain ⟨t6, e_t6, h⟩ := bn h
        refine g_iald hx hb hG hM e_t6 dX9_together_35 ?_
        refine lv_iadd hx hb dX9_together_36 ?_
        obtain ⟨t7, e_t7, h⟩ := bd_elim h
        refine lr_nmi e_t7 ?_
        refine lv_istore (lv' := [(4, .int t7), (0, va_rf (Option.map ad (some o0))), (1, .int x1), (2, .int x2), (3, .int x3), (5, .int x5)]) hx hb dX9_together_37 hl (by decide) (by first | rfl | simp [va_cat]) (fun ls hl => ?_)
        exact wX9_together_b39 hC hG hR Kr ih _ _ _ _ _ _ _ _ _ _ h hM (lv_sub hl [1, 2, 3, 4, 0, 5] rfl)
def fX9_together (o0 : Nat) (x1 : Int32) (x2 : Int32) (x3 : Int32) (σ : Mem) : Option (Int32 × Mem) :=
  fX9_together_b6 FU o0 x1 x2 x3 0 0 σ
set_option maxRecDepth 20000 in
theorem wX9_together {r : Int32} {σ' : Mem} (hC : CallFix p m c cX9_together 6 s args WALL RX9) (hG : GS D cy A s) (hR : 1 ≤ R.frames ∧ 36 ≤ R.locals) (Kr : KrI p l e R s m args below meth c cX9_together Q D cy ad A z r σ') (o0 : Nat) (x1 : Int32) (x2 : Int32) (x3 : Int32) (σ : Mem) (H : Heap) (locs : List Loc) (ls : Array Slot) (h : fX9_together o0 x1 x2 x3 σ = some (r, σ')) (hM : MS D cy ad A s.heap z σ H locs) (hl : lv_has ls 6 [(0, va_rf (Option.map ad (some o0))), (1, .int x1), (2, .int x2), (3, .int x3)]) : W p l e R s m args below meth c H locs 0 0 Q (F0 m 0 ls []) := by
  have hx := hC.1
  have hb := hC.2.1
  unfold fX9_together at h
  refine lv_iconst (v := 0) hx hb dX9_together_0 (by decide) ?_
  refine lv_istore (lv' := [(4, .int 0), (0, va_rf (Option.map ad (some o0))), (1, .int x1), (2, .int x2), (3, .int x3)]) hx hb dX9_together_1 hl (by decide) (by first | rfl | simp [va_cat]) (fun ls hl => ?_)
  refine lv_iconst (v := 0) hx hb dX9_together_3 (by decide) ?_
  refine lv_istore (lv' := [(5, .int 0), (4, .int 0), (0, va_rf (Option.map ad (some o0))), (1, .int x1), (2, .int x2), (3, .int x3)]) hx hb dX9_together_4 hl (by decide) (by first | rfl | simp [va_cat]) (fun ls hl => ?_)
  exact wX9_together_b6 hC hG hR Kr FU _ _ _ _ _ _ _ _ _ _ h hM (lv_sub hl [2, 3, 4, 5, 1, 0] rfl)
theorem cX9_together_ok {l : Launch} {D : va_G} {cy : Nat → ClassId} {ad : Nat → Nat} {A : Nat → Prop} {z : Nat} {r : Int32} {σ' : Mem} {o0 : Nat} {x1 : Int32} {x2 : Int32} {x3 : Int32} {σ : Mem} (h : fX9_together o0 x1 x2 x3 σ = some (r, σ')) : CtI l yX9_together cX9_together 6 (some .int) 1 [.ref (ad o0), .int x1, .int x2, .int x3] D cy ad A z σ r σ' :=
  enterI (own := RX9) (by decide) rfl (Nat.le_of_ble_eq_true rfl) rfl (fun p e s m below meth c Q ls hC hG hM Kr hl => wX9_together hC hG ⟨Nat.le_refl _, Nat.le_refl _⟩ Kr _ _ _ _ _ _ _ _ h hM hl)
/-! X9_use (III)I -/
def fX9_use_b45   (y0 : Int32) (σ : Mem) : Option (Int32 × Mem) :=
  some (y0, σ)
set_option maxRecDepth 20000 in
theorem wX9_use_b45 {r : Int32} {σ' : Mem} (hC : CallFix p m c cX9_use 4 s args WALL RX9) (hG : GS D cy A s) (hR : 1 ≤ R.frames ∧ 36 ≤ R.locals) (Kr : KrI p l e R s m args below meth c cX9_use Q D cy ad A z r σ')   (y0 : Int32) (σ : Mem) (H : Heap) (locs : List Loc) (ls : Array Slot) (h : fX9_use_b45 y0 σ = some (r, σ')) (hM : MS D cy ad A s.heap z σ H locs) (hl : lv_has ls 4 []) : W p l e R s m args below meth c H locs 0 0 Q (F0 m 45 ls [.int y0]) := by
  have hx := hC.1
  have hb := hC.2.1
  unfold fX9_use_b45 at h
  obtain ⟨rfl, rfl⟩ := Prod.mk.inj (Option.some.inj h)
  exact Kr _ _ _ _ dX9_use_45 hM
def fX9_use_b44    (σ : Mem) : Option (Int32 × Mem) :=
  fX9_use_b45 (-1) σ
set_option maxRecDepth 20000 in
theorem wX9_use_b44 {r : Int32} {σ' : Mem} (hC : CallFix p m c cX9_use 4 s args WALL RX9) (hG : GS D cy A s) (hR : 1 ≤ R.frames ∧ 36 ≤ R.locals) (Kr : KrI p l e R s m args below meth c cX9_use Q D cy ad A z r σ')    (σ : Mem) (H : Heap) (locs : List Loc) (ls : Array Slot) (h : fX9_use_b44  σ = some (r, σ')) (hM : MS D cy ad A s.heap z σ H locs) (hl : lv_has ls 4 []) : W p l e R s m args below meth c H locs 0 0 Q (F0 m 44 ls []) := by
  have hx := hC.1
  have hb := hC.2.1
  unfold fX9_use_b44 at h
  refine lv_iconst (v := (-1)) hx hb dX9_use_44 (by decide) ?_
  exact wX9_use_b45 hC hG hR Kr _ _ _ _ _ h hM (lv_sub hl [] rfl)
def fX9_use (o0 : Nat) (x1 : Int32) (x2 : Int32) (x3 : Int32) (σ : Mem) : Option (Int32 × Mem) :=
  (pI σ 9 0 (some o0) 0).bind fun m1 =>
    b2 (fX9_isIn x1 4 m1) fun t2 m3 =>
    if t2 = 0 then fX9_use_b44 m3
    else b2 (fX9_isIn x2 4 m3) fun t5 m6 =>
      if t5 = 0 then fX9_use_b44 m6
      else b2 (fX9_isIn x3 24 m6) fun t8 m9 =>
        if t8 = 0 then fX9_use_b44 m9
        else (fR m9 9 27 (some o0)).bind fun t11 =>
          b2 (fX9_cell x1 x2 x3 m9) fun t12 m13 =>
          (aI m13 11 t11 t12).bind fun t14 =>
          fX9_use_b45 t14 m13
set_option maxRecDepth 20000 in
theorem wX9_use {r : Int32} {σ' : Mem} (hC : CallFix p m c cX9_use 4 s args WALL RX9) (hG : GS D cy A s) (hR : 1 ≤ R.frames ∧ 36 ≤ R.locals) (Kr : KrI p l e R s m args below meth c cX9_use Q D cy ad A z r σ') (o0 : Nat) (x1 : Int32) (x2 : Int32) (x3 : Int32) (σ : Mem) (H : Heap) (locs : List Loc) (ls : Array Slot) (h : fX9_use o0 x1 x2 x3 σ = some (r, σ')) (hM : MS D cy ad A s.heap z σ H locs) (hl : lv_has ls 4 [(0, va_rf (Option.map ad (some o0))), (1, .int x1), (2, .int x2), (3, .int x3)]) : W p l e R s m args below meth c H locs 0 0 Q (F0 m 0 ls []) := by
  have hx := hC.1
  have hb := hC.2.1
  unfold fX9_use at h
  refine lr_aload_n hx hb dX9_use_0 rfl (lv_at hl 0 rfl) ?_
  refine lv_iconst (v := 0) hx hb dX9_use_1 (by decide) ?_
  obtain ⟨m1, e_m1, h⟩ := bn h
  refine pf_X9_87 hC hG hM e_m1 dX9_use_2 (fun H locs hM => ?_)
  refine lv_iload_n hx hb dX9_use_5 rfl (lv_at hl 1 rfl) ?_
  refine lv_iconst (v := 4) hx hb dX9_use_6 (by decide) ?_
  obtain ⟨t2, m3, e_m3, h⟩ := b2_elim h
  refine cs_X9_224 hC hG hM (cX9_isIn_ok e_m3) ⟨by omega, by omega⟩ hl.1 (by first | exact Nat.le_of_ble_eq_true rfl | simp [va_cat, vcI, vcL, vcR]) dX9_use_7 (fun H locs hM => ?_)
  refine lv_if_eq (tgt := 44) hx hb dX9_use_10 (by decide) (fun c4 => ?_) (fun c4 => ?_)
  · rw [if_pos c4] at h
    exact wX9_use_b44 hC hG hR Kr _ _ _ _ h hM (lv_sub hl [] rfl)
  · rw [if_neg c4] at h
    refine lv_iload_n hx hb dX9_use_13 rfl (lv_at hl 2 rfl) ?_
    refine lv_iconst (v := 4) hx hb dX9_use_14 (by decide) ?_
    obtain ⟨t5, m6, e_m6, h⟩ := b2_elim h
    refine cs_X9_224 hC hG hM (cX9_isIn_ok e_m6) ⟨by omega, by omega⟩ hl.1 (by first | exact Nat.le_of_ble_eq_true rfl | simp [va_cat, vcI, vcL, vcR]) dX9_use_15 (fun H locs hM => ?_)
    refine lv_if_eq (tgt := 44) hx hb dX9_use_18 (by decide) (fun c7 => ?_) (fun c7 => ?_)
    · rw [if_pos c7] at h
      exact wX9_use_b44 hC hG hR Kr _ _ _ _ h hM (lv_sub hl [] rfl)
    · rw [if_neg c7] at h
      refine lv_iload_n hx hb dX9_use_21 rfl (lv_at hl 3 rfl) ?_
      refine lv_bipush (v := 24) hx hb dX9_use_22 (by decide) ?_
      obtain ⟨t8, m9, e_m9, h⟩ := b2_elim h
      refine cs_X9_224 hC hG hM (cX9_isIn_ok e_m9) ⟨by omega, by omega⟩ hl.1 (by first | exact Nat.le_of_ble_eq_true rfl | simp [va_cat, vcI, vcL, vcR]) dX9_use_24 (fun H locs hM => ?_)
      refine lv_if_eq (tgt := 44) hx hb dX9_use_27 (by decide) (fun c10 => ?_) (fun c10 => ?_)
      · rw [if_pos c10] at h
        exact wX9_use_b44 hC hG hR Kr _ _ _ _ h hM (lv_sub hl [] rfl)
      · rw [if_neg c10] at h
        refine lr_aload_n hx hb dX9_use_30 rfl (lv_at hl 0 rfl) ?_
        obtain ⟨t11, e_t11, h⟩ := bn h
        refine gf_X9_51 hC hG hM e_t11 dX9_use_31 ?_
        refine lv_iload_n hx hb dX9_use_34 rfl (lv_at hl 1 rfl) ?_
        refine lv_iload_n hx hb dX9_use_35 rfl (lv_at hl 2 rfl) ?_
        refine lv_iload_n hx hb dX9_use_36 rfl (lv_at hl 3 rfl) ?_
        obtain ⟨t12, m13, e_m13, h⟩ := b2_elim h
        refine cs_X9_227 hC hG hM (cX9_cell_ok e_m13) ⟨by omega, by omega⟩ hl.1 (by first | exact Nat.le_of_ble_eq_true rfl | simp [va_cat, vcI, vcL, vcR]) dX9_use_37 (fun H locs hM => ?_)
        obtain ⟨t14, e_t14, h⟩ := bn h
        refine g_iald hx hb hG hM e_t14 dX9_use_40 ?_
        refine lv_goto (tgt := 45) hx hb dX9_use_41 (by decide) ?_
        exact wX9_use_b45 hC hG hR Kr _ _ _ _ _ h hM (lv_sub hl [] rfl)
theorem cX9_use_ok {l : Launch} {D : va_G} {cy : Nat → ClassId} {ad : Nat → Nat} {A : Nat → Prop} {z : Nat} {r : Int32} {σ' : Mem} {o0 : Nat} {x1 : Int32} {x2 : Int32} {x3 : Int32} {σ : Mem} (h : fX9_use o0 x1 x2 x3 σ = some (r, σ')) : CtI l yX9_use cX9_use 4 (some .int) 1 [.ref (ad o0), .int x1, .int x2, .int x3] D cy ad A z σ r σ' :=
  enterI (own := RX9) (by decide) rfl (Nat.le_of_ble_eq_true rfl) rfl (fun p e s m below meth c Q ls hC hG hM Kr hl => wX9_use hC hG ⟨Nat.le_refl _, Nat.le_refl _⟩ Kr _ _ _ _ _ _ _ _ h hM hl)
end WK
