section WK
variable {p : Program} {l : Launch} {e : Env} {R : Room} {s : State} {m : MethodId} {args : Array Value} {below : List Frame} {meth : Method} {c : Code} {Q : State → Prop}
variable {D : va_G} {cy : Nat → ClassId} {ad : Nat → Nat} {A : Nat → Prop} {z : Nat}
/-! X9_plans ()I -/
def fX9_plans_b302  (o0 : Nat)  (σ : Mem) : Option (Int32 × Mem) :=
  (fI σ 9 22 (some o0)).bind fun t1 =>
    some (t1, σ)
set_option maxRecDepth 20000 in
theorem wX9_plans_b302 {r : Int32} {σ' : Mem} (hC : CallFix p m c cX9_plans 7 s args WALL RX9) (hG : GS D cy A s) (hR : 6 ≤ R.frames ∧ 216 ≤ R.locals) (Kr : KrI p l e R s m args below meth c cX9_plans Q D cy ad A z r σ')  (o0 : Nat)  (σ : Mem) (H : Heap) (locs : List Loc) (ls : Array Slot) (h : fX9_plans_b302 o0 σ = some (r, σ')) (hM : MS D cy ad A s.heap z σ H locs) (hl : lv_has ls 7 [(0, va_rf (Option.map ad (some o0)))]) : W p l e R s m args below meth c H locs 0 0 Q (F0 m 302 ls []) := by
  have hx := hC.1
  have hb := hC.2.1
  unfold fX9_plans_b302 at h
  refine lr_aload_n hx hb dX9_plans_302 rfl (lv_at hl 0 rfl) ?_
  obtain ⟨t1, e_t1, h⟩ := bn h
  refine gf_X9_205 hC hG hM e_t1 dX9_plans_303 ?_
  obtain ⟨rfl, rfl⟩ := Prod.mk.inj (Option.some.inj h)
  exact Kr _ _ _ _ dX9_plans_306 hM
def fX9_plans_b284  : Nat → Nat → Int32 → Mem → Option (Int32 × Mem)
  | 0, _, _, _ => none
  | n + 1, o0, x1, σ =>
    if 4 ≤ x1 then fX9_plans_b302 o0 σ
      else (fR σ 9 39 (some o0)).bind fun t2 =>
        (wI σ 11 t2 x1 0).bind fun m3 =>
        bd (x1 + 1) fun t4 =>
        (fX9_plans_b284 n) o0 t4 m3
set_option maxRecDepth 20000 in
theorem wX9_plans_b284 {r : Int32} {σ' : Mem} (hC : CallFix p m c cX9_plans 7 s args WALL RX9) (hG : GS D cy A s) (hR : 6 ≤ R.frames ∧ 216 ≤ R.locals) (Kr : KrI p l e R s m args below meth c cX9_plans Q D cy ad A z r σ')  : ∀ (n : Nat) (o0 : Nat) (x1 : Int32)  (σ : Mem) (H : Heap) (locs : List Loc) (ls : Array Slot), fX9_plans_b284 n o0 x1 σ = some (r, σ') → MS D cy ad A s.heap z σ H locs → lv_has ls 7 [(0, va_rf (Option.map ad (some o0))), (1, .int x1)] → W p l e R s m args below meth c H locs 0 0 Q (F0 m 284 ls []) := by
  have hx := hC.1
  have hb := hC.2.1
  intro n
  induction n with
  | zero =>
    intro o0 x1 σ H locs ls h
    cases h
  | succ n ih =>
    intro o0 x1 σ H locs ls h hM hl
    rw [fX9_plans_b284] at h
    refine lv_iload_n hx hb dX9_plans_284 rfl (lv_at hl 1 rfl) ?_
    refine lv_iconst (v := 4) hx hb dX9_plans_285 (by decide) ?_
    refine lv_icmp_ge (tgt := 302) hx hb dX9_plans_286 (by decide) (fun c1 => ?_) (fun c1 => ?_)
    · rw [if_pos c1] at h
      exact wX9_plans_b302 hC hG hR Kr _ _ _ _ _ h hM (lv_sub hl [0] rfl)
    · rw [if_neg c1] at h
      refine lr_aload_n hx hb dX9_plans_289 rfl (lv_at hl 0 rfl) ?_
      obtain ⟨t2, e_t2, h⟩ := bn h
      refine gf_X9_78 hC hG hM e_t2 dX9_plans_290 ?_
      refine lv_iload_n hx hb dX9_plans_293 rfl (lv_at hl 1 rfl) ?_
      refine lv_iconst (v := 0) hx hb dX9_plans_294 (by decide) ?_
      obtain ⟨m3, e_m3, h⟩ := bn h
      refine g_iast hx hb hG hM e_m3 dX9_plans_295 (fun H locs hM => ?_)
      obtain ⟨t4, e_t4, h⟩ := bd_elim h
      refine lv_iinc (v := t4) (lv' := [(1, .int t4), (0, va_rf (Option.map ad (some o0)))]) hx hb dX9_plans_296 hl (k := 1) rfl (by rw [e_t4]; rfl) (by decide) (by first | rfl | simp [va_cat]) (fun ls hl => ?_)
      refine lv_goto (tgt := 284) hx hb dX9_plans_299 (by decide) ?_
      exact ih _ _ _ _ _ _ h hM (lv_sub hl [1, 0] rfl)
def fX9_plans_b272  (o0 : Nat)  (σ : Mem) : Option (Int32 × Mem) :=
  (pI σ 9 34 (some o0) 0).bind fun m1 =>
    (pI m1 9 35 (some o0) 0).bind fun m2 =>
    fX9_plans_b284 FU o0 0 m2
set_option maxRecDepth 20000 in
theorem wX9_plans_b272 {r : Int32} {σ' : Mem} (hC : CallFix p m c cX9_plans 7 s args WALL RX9) (hG : GS D cy A s) (hR : 6 ≤ R.frames ∧ 216 ≤ R.locals) (Kr : KrI p l e R s m args below meth c cX9_plans Q D cy ad A z r σ')  (o0 : Nat)  (σ : Mem) (H : Heap) (locs : List Loc) (ls : Array Slot) (h : fX9_plans_b272 o0 σ = some (r, σ')) (hM : MS D cy ad A s.heap z σ H locs) (hl : lv_has ls 7 [(0, va_rf (Option.map ad (some o0)))]) : W p l e R s m args below meth c H locs 0 0 Q (F0 m 272 ls []) := by
  have hx := hC.1
  have hb := hC.2.1
  unfold fX9_plans_b272 at h
  refine lr_aload_n hx hb dX9_plans_272 rfl (lv_at hl 0 rfl) ?_
  refine lv_iconst (v := 0) hx hb dX9_plans_273 (by decide) ?_
  obtain ⟨m1, e_m1, h⟩ := bn h
  refine pf_X9_208 hC hG hM e_m1 dX9_plans_274 (fun H locs hM => ?_)
  refine lr_aload_n hx hb dX9_plans_277 rfl (lv_at hl 0 rfl) ?_
  refine lv_iconst (v := 0) hx hb dX9_plans_278 (by decide) ?_
  obtain ⟨m2, e_m2, h⟩ := bn h
  refine pf_X9_211 hC hG hM e_m2 dX9_plans_279 (fun H locs hM => ?_)
  refine lv_iconst (v := 0) hx hb dX9_plans_282 (by decide) ?_
  refine lv_istore_n (lv' := [(1, .int 0), (0, va_rf (Option.map ad (some o0)))]) hx hb dX9_plans_283 rfl hl (by decide) (by first | rfl | simp [va_cat]) (fun ls hl => ?_)
  exact wX9_plans_b284 hC hG hR Kr FU _ _ _ _ _ _ h hM (lv_sub hl [1, 0] rfl)
def fX9_plans_b266 (rc47 : Nat → Int32 → Mem → Option (Int32 × Mem)) (o0 : Nat) (x1 : Int32)  (σ : Mem) : Option (Int32 × Mem) :=
  bd (x1 + 1) fun t1 =>
    rc47 o0 t1 σ
set_option maxRecDepth 20000 in
theorem wX9_plans_b266 {r : Int32} {σ' : Mem} (hC : CallFix p m c cX9_plans 7 s args WALL RX9) (hG : GS D cy A s) (hR : 6 ≤ R.frames ∧ 216 ≤ R.locals) (Kr : KrI p l e R s m args below meth c cX9_plans Q D cy ad A z r σ') {rc47 : Nat → Int32 → Mem → Option (Int32 × Mem)} (Kc47 : ∀ (o0 : Nat) (x1 : Int32) (τ : Mem) (H : Heap) (locs : List Loc) (ls : Array Slot), rc47 o0 x1 τ = some (r, σ') → MS D cy ad A s.heap z τ H locs → lv_has ls 7 [(0, va_rf (Option.map ad (some o0))), (1, .int x1)] → W p l e R s m args below meth c H locs 0 0 Q (F0 m 47 ls [])) (o0 : Nat) (x1 : Int32)  (σ : Mem) (H : Heap) (locs : List Loc) (ls : Array Slot) (h : fX9_plans_b266 rc47 o0 x1 σ = some (r, σ')) (hM : MS D cy ad A s.heap z σ H locs) (hl : lv_has ls 7 [(0, va_rf (Option.map ad (some o0))), (1, .int x1)]) : W p l e R s m args below meth c H locs 0 0 Q (F0 m 266 ls []) := by
  have hx := hC.1
  have hb := hC.2.1
  unfold fX9_plans_b266 at h
  obtain ⟨t1, e_t1, h⟩ := bd_elim h
  refine lv_iinc (v := t1) (lv' := [(1, .int t1), (0, va_rf (Option.map ad (some o0)))]) hx hb dX9_plans_266 hl (k := 1) rfl (by rw [e_t1]; rfl) (by decide) (by first | rfl | simp [va_cat]) (fun ls hl => ?_)
  refine lv_goto (tgt := 47) hx hb dX9_plans_269 (by decide) ?_
  exact Kc47 _ _ _ _ _ _ h hM (lv_sub hl [1, 0] rfl)
def fX9_plans_b260 (rc47 : Nat → Int32 → Mem → Option (Int32 × Mem)) (rc122 : Nat → Int32 → Int32 → Int32 → Mem → Option (Int32 × Mem)) (o0 : Nat) (x1 : Int32) (x2 : Int32) (x3 : Int32)  (σ : Mem) : Option (Int32 × Mem) :=
  bd (x3 + 1) fun t1 =>
    rc122 o0 x1 x2 t1 σ
set_option maxRecDepth 20000 in
theorem wX9_plans_b260 {r : Int32} {σ' : Mem} (hC : CallFix p m c cX9_plans 7 s args WALL RX9) (hG : GS D cy A s) (hR : 6 ≤ R.frames ∧ 216 ≤ R.locals) (Kr : KrI p l e R s m args below meth c cX9_plans Q D cy ad A z r σ') {rc47 : Nat → Int32 → Mem → Option (Int32 × Mem)} (Kc47 : ∀ (o0 : Nat) (x1 : Int32) (τ : Mem) (H : Heap) (locs : List Loc) (ls : Array Slot), rc47 o0 x1 τ = some (r, σ') → MS D cy ad A s.heap z τ H locs → lv_has ls 7 [(0, va_rf (Option.map ad (some o0))), (1, .int x1)] → W p l e R s m args below meth c H locs 0 0 Q (F0 m 47 ls [])) {rc122 : Nat → Int32 → Int32 → Int32 → Mem → Option (Int32 × Mem)} (Kc122 : ∀ (o0 : Nat) (x1 : Int32) (x2 : Int32) (x3 : Int32) (τ : Mem) (H : Heap) (locs : List Loc) (ls : Array Slot), rc122 o0 x1 x2 x3 τ = some (r, σ') → MS D cy ad A s.heap z τ H locs → lv_has ls 7 [(0, va_rf (Option.map ad (some o0))), (1, .int x1), (2, .int x2), (3, .int x3)] → W p l e R s m args below meth c H locs 0 0 Q (F0 m 122 ls [])) (o0 : Nat) (x1 : Int32) (x2 : Int32) (x3 : Int32)  (σ : Mem) (H : Heap) (locs : List Loc) (ls : Array Slot) (h : fX9_plans_b260 rc47 rc122 o0 x1 x2 x3 σ = some (r, σ')) (hM : MS D cy ad A s.heap z σ H locs) (hl : lv_has ls 7 [(0, va_rf (Option.map ad (some o0))), (1, .int x1), (2, .int x2), (3, .int x3)]) : W p l e R s m args below meth c H locs 0 0 Q (F0 m 260 ls []) := by
  have hx := hC.1
  have hb := hC.2.1
  unfold fX9_plans_b260 at h
  obtain ⟨t1, e_t1, h⟩ := bd_elim h
  refine lv_iinc (v := t1) (lv' := [(3, .int t1), (0, va_rf (Option.map ad (some o0))), (1, .int x1), (2, .int x2)]) hx hb dX9_plans_260 hl (k := 3) rfl (by rw [e_t1]; rfl) (by decide) (by first | rfl | simp [va_cat]) (fun ls hl => ?_)
  refine lv_goto (tgt := 122) hx hb dX9_plans_263 (by decide) ?_
  exact Kc122 _ _ _ _ _ _ _ _ h hM (lv_sub hl [1, 2, 3, 0] rfl)
def fX9_plans_b200 (rc47 : Nat → Int32 → Mem → Option (Int32 × Mem)) (rc122 : Nat → Int32 → Int32 → Int32 → Mem → Option (Int32 × Mem)) : Nat → Nat → Int32 → Int32 → Int32 → Int32 → Int32 → Int32 → Mem → Option (Int32 × Mem)
  | 0, _, _, _, _, _, _, _, _ => none
  | n + 1, o0, x1, x2, x3, x4, x5, x6, σ =>
    if 3 ≤ x6 then fX9_plans_b260 rc47 rc122 o0 x1 x2 x3 σ
      else (fR σ 9 19 (some o0)).bind fun t2 =>
        (fR σ 9 19 (some o0)).bind fun t3 =>
        (aI σ 11 t3 ((3 * x5) + x6)).bind fun t4 =>
        (wI σ 11 t2 ((3 * x4) + x6) t4).bind fun m5 =>
        (fR m5 9 20 (some o0)).bind fun t6 =>
        (fR m5 9 20 (some o0)).bind fun t7 =>
        (aI m5 11 t7 ((3 * x5) + x6)).bind fun t8 =>
        (wI m5 11 t6 ((3 * x4) + x6) t8).bind fun m9 =>
        bd (x6 + 1) fun t10 =>
        (fX9_plans_b200 rc47 rc122 n) o0 x1 x2 x3 x4 x5 t10 m9
set_option maxRecDepth 20000 in
theorem wX9_plans_b200 {r : Int32} {σ' : Mem} (hC : CallFix p m c cX9_plans 7 s args WALL RX9) (hG : GS D cy A s) (hR : 6 ≤ R.frames ∧ 216 ≤ R.locals) (Kr : KrI p l e R s m args below meth c cX9_plans Q D cy ad A z r σ') {rc47 : Nat → Int32 → Mem → Option (Int32 × Mem)} (Kc47 : ∀ (o0 : Nat) (x1 : Int32) (τ : Mem) (H : Heap) (locs : List Loc) (ls : Array Slot), rc47 o0 x1 τ = some (r, σ') → MS D cy ad A s.heap z τ H locs → lv_has ls 7 [(0, va_rf (Option.map ad (some o0))), (1, .int x1)] → W p l e R s m args below meth c H locs 0 0 Q (F0 m 47 ls [])) {rc122 : Nat → Int32 → Int32 → Int32 → Mem → Option (Int32 × Mem)} (Kc122 : ∀ (o0 : Nat) (x1 : Int32) (x2 : Int32) (x3 : Int32) (τ : Mem) (H : Heap) (locs : List Loc) (ls : Array Slot), rc122 o0 x1 x2 x3 τ = some (r, σ') → MS D cy ad A s.heap z τ H locs → lv_has ls 7 [(0, va_rf (Option.map ad (some o0))), (1, .int x1), (2, .int x2), (3, .int x3)] → W p l e R s m args below meth c H locs 0 0 Q (F0 m 122 ls [])) : ∀ (n : Nat) (o0 : Nat) (x1 : Int32) (x2 : Int32) (x3 : Int32) (x4 : Int32) (x5 : Int32) (x6 : Int32)  (σ : Mem) (H : Heap) (locs : List Loc) (ls : Array Slot), fX9_plans_b200 rc47 rc122 n o0 x1 x2 x3 x4 x5 x6 σ = some (r, σ') → MS D cy ad A s.heap z σ H locs → lv_has ls 7 [(0, va_rf (Option.map ad (some o0))), (1, .int x1), (2, .int x2), (3, .int x3), (4, .int x4), (5, .int x5), (6, .int x6)] → W p l e R s m args below meth c H locs 0 0 Q (F0 m 200 ls []) := by
  have hx := hC.1
  have hb := hC.2.1
  intro n
  induction n with
  | zero =>
    intro o0 x1 x2 x3 x4 x5 x6 σ H locs ls h
    cases h
  | succ n ih =>
    intro o0 x1 x2 x3 x4 x5 x6 σ H locs ls h hM hl
    rw [fX9_plans_b200] at h
    refine lv_iload hx hb dX9_plans_200 (lv_at hl 6 rfl) ?_
    refine lv_iconst (v := 3) hx hb dX9_plans_202 (by decide) ?_
    refine lv_icmp_ge (tgt := 260) hx hb dX9_plans_203 (by decide) (fun c1 => ?_) (fun c1 => ?_)
    · rw [if_pos c1] at h
      exact wX9_plans_b260 hC hG hR Kr Kc47 Kc122 _ _ _ _ _ _ _ _ h hM (lv_sub hl [0, 1, 2, 3] rfl)
    · rw [if_neg c1] at h
      refine lr_aload_n hx hb dX9_plans_206 rfl (lv_at hl 0 rfl) ?_
      obtain ⟨t2, e_t2, h⟩ := bn h
      refine gf_X9_39 hC hG hM e_t2 dX9_plans_207 ?_
      refine lv_iconst (v := 3) hx hb dX9_plans_210 (by decide) ?_
      refine lv_iload hx hb dX9_plans_211 (lv_at hl 4 rfl) ?_
      refine lv_imul hx hb dX9_plans_213 ?_
      refine lv_iload hx hb dX9_plans_214 (lv_at hl 6 rfl) ?_
      refine lv_iadd hx hb dX9_plans_216 ?_
      refine lr_aload_n hx hb dX9_plans_217 rfl (lv_at hl 0 rfl) ?_
      obtain ⟨t3, e_t3, h⟩ := bn h
      refine gf_X9_39 hC hG hM e_t3 dX9_plans_218 ?_
      refine lv_iconst (v := 3) hx hb dX9_plans_221 (by decide) ?_
      refine lv_iload hx hb dX9_plans_222 (lv_at hl 5 rfl) ?_
      refine lv_imul hx hb dX9_plans_224 ?_
      refine lv_iload hx hb dX9_plans_225 (lv_at hl 6 rfl) ?_
      refine lv_iadd hx hb dX9_plans_227 ?_
      obtain ⟨t4, e_t4, h⟩ := bn h
      refine g_iald hx hb hG hM e_t4 dX9_plans_228 ?_
      obtain ⟨m5, e_m5, h⟩ := bn h
      refine g_iast hx hb hG hM e_m5 dX9_plans_229 (fun H locs hM => ?_)
      refine lr_aload_n hx hb dX9_plans_230 rfl (lv_at hl 0 rfl) ?_
      obtain ⟨t6, e_t6, h⟩ := bn h
      refine gf_X9_42 hC hG hM e_t6 dX9_plans_231 ?_
      refine lv_iconst (v := 3) hx hb dX9_plans_234 (by decide) ?_
      refine lv_iload hx hb dX9_plans_235 (lv_at hl 4 rfl) ?_
      refine lv_imul hx hb dX9_plans_237 ?_
      refine lv_iload hx hb dX9_plans_238 (lv_at hl 6 rfl) ?_
      refine lv_iadd hx hb dX9_plans_240 ?_
      refine lr_aload_n hx hb dX9_plans_241 rfl (lv_at hl 0 rfl) ?_
      obtain ⟨t7, e_t7, h⟩ := bn h
      refine gf_X9_42 hC hG hM e_t7 dX9_plans_242 ?_
      refine lv_iconst (v := 3) hx hb dX9_plans_245 (by decide) ?_
      refine lv_iload hx hb dX9_plans_246 (lv_at hl 5 rfl) ?_
      refine lv_imul hx hb dX9_plans_248 ?_
      refine lv_iload hx hb dX9_plans_249 (lv_at hl 6 rfl) ?_
      refine lv_iadd hx hb dX9_plans_251 ?_
      obtain ⟨t8, e_t8, h⟩ := bn h
      refine g_iald hx hb hG hM e_t8 dX9_plans_252 ?_
      obtain ⟨m9, e_m9, h⟩ := bn h
      refine g_iast hx hb hG hM e_m9 dX9_plans_253 (fun H locs hM => ?_)
      obtain ⟨t10, e_t10, h⟩ := bd_elim h
      refine lv_iinc (v := t10) (lv' := [(6, .int t10), (0, va_rf (Option.map ad (some o0))), (1, .int x1), (2, .int x2), (3, .int x3), (4, .int x4), (5, .int x5)]) hx hb dX9_plans_254 hl (k := 6) rfl (by rw [e_t10]; rfl) (by decide) (by first | rfl | simp [va_cat]) (fun ls hl => ?_)
      refine lv_goto (tgt := 200) hx hb dX9_plans_257 (by decide) ?_
      exact ih _ _ _ _ _ _ _ _ _ _ _ h hM (lv_sub hl [1, 2, 3, 4, 5, 6, 0] rfl)
def fX9_plans_b122 (rc47 : Nat → Int32 → Mem → Option (Int32 × Mem)) : Nat → Nat → Int32 → Int32 → Int32 → Mem → Option (Int32 × Mem)
  | 0, _, _, _, _, _ => none
  | n + 1, o0, x1, x2, x3, σ =>
    if 4 ≤ x3 then fX9_plans_b266 rc47 o0 x1 σ
      else bd ((4 * x1) + x3) fun t2 =>
        bd ((4 * x2) + x3) fun t3 =>
        (fR σ 9 16 (some o0)).bind fun t4 =>
        (fR σ 9 16 (some o0)).bind fun t5 =>
        (aI σ 13 t5 t3).bind fun t6 =>
        (wI σ 13 t4 t2 (vp_nar .boolean t6)).bind fun m7 =>
        (fR m7 9 17 (some o0)).bind fun t8 =>
        (fR m7 9 17 (some o0)).bind fun t9 =>
        (aI m7 11 t9 t3).bind fun t10 =>
        (wI m7 11 t8 t2 t10).bind fun m11 =>
        (fR m11 9 18 (some o0)).bind fun t12 =>
        (fR m11 9 18 (some o0)).bind fun t13 =>
        (aI m11 11 t13 t3).bind fun t14 =>
        (wI m11 11 t12 t2 t14).bind fun m15 =>
        (fR m15 9 21 (some o0)).bind fun t16 =>
        (fR m15 9 21 (some o0)).bind fun t17 =>
        (aI m15 11 t17 t3).bind fun t18 =>
        (wI m15 11 t16 t2 t18).bind fun m19 =>
        fX9_plans_b200 rc47 (fX9_plans_b122 rc47 n) FU o0 x1 x2 x3 t2 t3 0 m19
set_option maxRecDepth 20000 in
theorem wX9_plans_b122 {r : Int32} {σ' : Mem} (hC : CallFix p m c cX9_plans 7 s args WALL RX9) (hG : GS D cy A s) (hR : 6 ≤ R.frames ∧ 216 ≤ R.locals) (Kr : KrI p l e R s m args below meth c cX9_plans Q D cy ad A z r σ') {rc47 : Nat → Int32 → Mem → Option (Int32 × Mem)} (Kc47 : ∀ (o0 : Nat) (x1 : Int32) (τ : Mem) (H : Heap) (locs : List Loc) (ls : Array Slot), rc47 o0 x1 τ = some (r, σ') → MS D cy ad A s.heap z τ H locs → lv_has ls 7 [(0, va_rf (Option.map ad (some o0))), (1, .int x1)] → W p l e R s m args below meth c H locs 0 0 Q (F0 m 47 ls [])) : ∀ (n : Nat) (o0 : Nat) (x1 : Int32) (x2 : Int32) (x3 : Int32)  (σ : Mem) (H : Heap) (locs : List Loc) (ls : Array Slot), fX9_plans_b122 rc47 n o0 x1 x2 x3 σ = some (r, σ') → MS D cy ad A s.heap z σ H locs → lv_has ls 7 [(0, va_rf (Option.map ad (some o0))), (1, .int x1), (2, .int x2), (3, .int x3)] → W p l e R s m args below meth c H locs 0 0 Q (F0 m 122 ls []) := by
  have hx := hC.1
  have hb := hC.2.1
  intro n
  induction n with
  | zero =>
    intro o0 x1 x2 x3 σ H locs ls h
    cases h
  | succ n ih =>
    intro o0 x1 x2 x3 σ H locs ls h hM hl
    rw [fX9_plans_b122] at h
    refine lv_iload_n hx hb dX9_plans_122 rfl (lv_at hl 3 rfl) ?_
    refine lv_iconst (v := 4) hx hb dX9_plans_123 (by decide) ?_
    refine lv_icmp_ge (tgt := 266) hx hb dX9_plans_124 (by decide) (fun c1 => ?_) (fun c1 => ?_)
    · rw [if_pos c1] at h
      exact wX9_plans_b266 hC hG hR Kr Kc47 _ _ _ _ _ _ h hM (lv_sub hl [0, 1] rfl)
    · rw [if_neg c1] at h
      refine lv_iconst (v := 4) hx hb dX9_plans_127 (by decide) ?_
      refine lv_iload_n hx hb dX9_plans_128 rfl (lv_at hl 1 rfl) ?_
      refine lv_imul hx hb dX9_plans_129 ?_
      refine lv_iload_n hx hb dX9_plans_130 rfl (lv_at hl 3 rfl) ?_
      refine lv_iadd hx hb dX9_plans_131 ?_
      obtain ⟨t2, e_t2, h⟩ := bd_elim h
      refine lr_nmi e_t2 ?_
      refine lv_istore (lv' := [(4, .int t2), (0, va_rf (Option.map ad (some o0))), (1, .int x1), (2, .int x2), (3, .int x3)]) hx hb dX9_plans_132 hl (by decide) (by first | rfl | simp [va_cat]) (fun ls hl => ?_)
      refine lv_iconst (v := 4) hx hb dX9_plans_134 (by decide) ?_
      refine lv_iload_n hx hb dX9_plans_135 rfl (lv_at hl 3 rfl) ?_
      refine lv_imul hx hb dX9_plans_136 ?_
      refine lv_iload_n hx hb dX9_plans_137 rfl (lv_at hl 4 rfl) ?_
      refine lv_iadd hx hb dX9_plans_138 ?_
      obtain ⟨t3, e_t3, h⟩ := bd_elim h
      refine lr_nmi e_t3 ?_
      refine lv_istore (lv' := [(5, .int t3), (4, .int t2), (0, va_rf (Option.map ad (some o0))), (1, .int x1), (2, .int x2), (3, .int x3)]) hx hb dX9_plans_139 hl (by decide) (by first | rfl | simp [va_cat]) (fun ls hl => ?_)
      refine lr_aload_n hx hb dX9_plans_141 rfl (lv_at hl 2 rfl) ?_
      obtain ⟨t4, e_t4, h⟩ := bn h
      refine gf_X9_29 hC hG hM e_t4 dX9_plans_142 ?_
      refine lv_iload hx hb dX9_plans_145 (lv_at hl 1 rfl) ?_
      refine lr_aload_n hx hb dX9_plans_147 rfl (lv_at hl 2 rfl) ?_
      obtain ⟨t5, e_t5, h⟩ := bn h
      refine gf_X9_29 hC hG hM e_t5 dX9_plans_148 ?_
      refine lv_iload hx hb dX9_plans_151 (lv_at hl 0 rfl) ?_
      obtain ⟨t6, e_t6, h⟩ := bn h
      refine g_zald hx hb hG hM e_t6 dX9_plans_153 ?_
      obtain ⟨m7, e_m7, h⟩ := bn h
      refine g_zast hx hb hG hM e_m7 dX9_plans_154 (fun H locs hM => ?_)
      refine lr_aload_n hx hb dX9_plans_155 rfl (lv_at hl 2 rfl) ?_
      obtain ⟨t8, e_t8, h⟩ := bn h
      refine gf_X9_33 hC hG hM e_t8 dX9_plans_156 ?_
      refine lv_iload hx hb dX9_plans_159 (lv_at hl 1 rfl) ?_
      refine lr_aload_n hx hb dX9_plans_161 rfl (lv_at hl 2 rfl) ?_
      obtain ⟨t9, e_t9, h⟩ := bn h
      refine gf_X9_33 hC hG hM e_t9 dX9_plans_162 ?_
      refine lv_iload hx hb dX9_plans_165 (lv_at hl 0 rfl) ?_
      obtain ⟨t10, e_t10, h⟩ := bn h
      refine g_iald hx hb hG hM e_t10 dX9_plans_167 ?_
      obtain ⟨m11, e_m11, h⟩ := bn h
      refine g_iast hx hb hG hM e_m11 dX9_plans_168 (fun H locs hM => ?_)
      refine lr_aload_n hx hb dX9_plans_169 rfl (lv_at hl 2 rfl) ?_
      obtain ⟨t12, e_t12, h⟩ := bn h
      refine gf_X9_36 hC hG hM e_t12 dX9_plans_170 ?_
      refine lv_iload hx hb dX9_plans_173 (lv_at hl 1 rfl) ?_
      refine lr_aload_n hx hb dX9_plans_175 rfl (lv_at hl 2 rfl) ?_
      obtain ⟨t13, e_t13, h⟩ := bn h
      refine gf_X9_36 hC hG hM e_t13 dX9_plans_176 ?_
      refine lv_iload hx hb dX9_plans_179 (lv_at hl 0 rfl) ?_
      obtain ⟨t14, e_t14, h⟩ := bn h
      refine g_iald hx hb hG hM e_t14 dX9_plans_181 ?_
      obtain ⟨m15, e_m15, h⟩ := bn h
      refine g_iast hx hb hG hM e_m15 dX9_plans_182 (fun H locs hM => ?_)
      refine lr_aload_n hx hb dX9_plans_183 rfl (lv_at hl 2 rfl) ?_
      obtain ⟨t16, e_t16, h⟩ := bn h
      refine gf_X9_45 hC hG hM e_t16 dX9_plans_184 ?_
      refine lv_iload hx hb dX9_plans_187 (lv_at hl 1 rfl) ?_
      refine lr_aload_n hx hb dX9_plans_189 rfl (lv_at hl 2 rfl) ?_
      obtain ⟨t17, e_t17, h⟩ := bn h
      refine gf_X9_45 hC hG hM e_t17 dX9_plans_190 ?_
      refine lv_iload hx hb dX9_plans_193 (lv_at hl 0 rfl) ?_
      obtain ⟨t18, e_t18, h⟩ := bn h
      refine g_iald hx hb hG hM e_t18 dX9_plans_195 ?_
      obtain ⟨m19, e_m19, h⟩ := bn h
      refine g_iast hx hb hG hM e_m19 dX9_plans_196 (fun H locs hM => ?_)
      refine lv_iconst (v := 0) hx hb dX9_plans_197 (by decide) ?_
      refine lv_istore (lv' := [(6, .int 0), (5, .int t3), (4, .int t2), (0, va_rf (Option.map ad (some o0))), (1, .int x1), (2, .int x2), (3, .int x3)]) hx hb dX9_plans_198 hl (by decide) (by first | rfl | simp [va_cat]) (fun ls hl => ?_)
      exact wX9_plans_b200 hC hG hR Kr Kc47 ih FU _ _ _ _ _ _ _ _ _ _ _ h hM (lv_sub hl [3, 4, 5, 6, 2, 1, 0] rfl)
def fX9_plans_b47  : Nat → Nat → Int32 → Mem → Option (Int32 × Mem)
  | 0, _, _, _ => none
  | n + 1, o0, x1, σ =>
    (fI σ 9 22 (some o0)).bind fun t1 =>
      if t1 ≤ x1 then fX9_plans_b272 o0 σ
      else bd (10 + x1) fun t3 =>
        (fR σ 9 11 (some o0)).bind fun t4 =>
        (fR σ 9 11 (some o0)).bind fun t5 =>
        (aJ σ 12 t5 t3).bind fun t6 =>
        (wJ σ 12 t4 x1 t6).bind fun m7 =>
        (fR m7 9 12 (some o0)).bind fun t8 =>
        (fR m7 9 12 (some o0)).bind fun t9 =>
        (aI m7 11 t9 t3).bind fun t10 =>
        (wI m7 11 t8 x1 t10).bind fun m11 =>
        (fR m11 9 13 (some o0)).bind fun t12 =>
        (fR m11 9 13 (some o0)).bind fun t13 =>
        (aI m11 11 t13 t3).bind fun t14 =>
        (wI m11 11 t12 x1 t14).bind fun m15 =>
        (fR m15 9 14 (some o0)).bind fun t16 =>
        (fR m15 9 14 (some o0)).bind fun t17 =>
        (aI m15 11 t17 t3).bind fun t18 =>
        (wI m15 11 t16 x1 t18).bind fun m19 =>
        (fR m19 9 15 (some o0)).bind fun t20 =>
        (fR m19 9 15 (some o0)).bind fun t21 =>
        (aI m19 11 t21 t3).bind fun t22 =>
        (wI m19 11 t20 x1 t22).bind fun m23 =>
        fX9_plans_b122 (fX9_plans_b47 n) FU o0 x1 t3 0 m23
set_option maxRecDepth 20000 in
theorem wX9_plans_b47 {r : Int32} {σ' : Mem} (hC : CallFix p m c cX9_plans 7 s args WALL RX9) (hG : GS D cy A s) (hR : 6 ≤ R.frames ∧ 216 ≤ R.locals) (Kr : KrI p l e R s m args below meth c cX9_plans Q D cy ad A z r σ')  : ∀ (n : Nat) (o0 : Nat) (x1 : Int32)  (σ : Mem) (H : Heap) (locs : List Loc) (ls : Array Slot), fX9_plans_b47 n o0 x1 σ = some (r, σ') → MS D cy ad A s.heap z σ H locs → lv_has ls 7 [(0, va_rf (Option.map ad (some o0))), (1, .int x1)] → W p l e R s m args below meth c H locs 0 0 Q (F0 m 47 ls []) := by
  have hx := hC.1
  have hb := hC.2.1
  intro n
  induction n with
  | zero =>
    intro o0 x1 σ H locs ls h
    cases h
  | succ n ih =>
    intro o0 x1 σ H locs ls h hM hl
    rw [fX9_plans_b47] at h
    refine lv_iload_n hx hb dX9_plans_47 rfl (lv_at hl 1 rfl) ?_
    refine lr_aload_n hx hb dX9_plans_48 rfl (lv_at hl 0 rfl) ?_
    obtain ⟨t1, e_t1, h⟩ := bn h
    refine gf_X9_205 hC hG hM e_t1 dX9_plans_49 ?_
    refine lv_icmp_ge (tgt := 272) hx hb dX9_plans_52 (by decide) (fun c2 => ?_) (fun c2 => ?_)
    · rw [if_pos c2] at h
      exact wX9_plans_b272 hC hG hR Kr _ _ _ _ _ h hM (lv_sub hl [0] rfl)
    · rw [if_neg c2] at h
      refine lv_bipush (v := 10) hx hb dX9_plans_55 (by decide) ?_
      refine lv_iload_n hx hb dX9_plans_57 rfl (lv_at hl 1 rfl) ?_
      refine lv_iadd hx hb dX9_plans_58 ?_
      obtain ⟨t3, e_t3, h⟩ := bd_elim h
      refine lr_nmi e_t3 ?_
      refine lv_istore_n (lv' := [(2, .int t3), (0, va_rf (Option.map ad (some o0))), (1, .int x1)]) hx hb dX9_plans_59 rfl hl (by decide) (by first | rfl | simp [va_cat]) (fun ls hl => ?_)
      refine lr_aload_n hx hb dX9_plans_60 rfl (lv_at hl 1 rfl) ?_
      obtain ⟨t4, e_t4, h⟩ := bn h
      refine gf_X9_13 hC hG hM e_t4 dX9_plans_61 ?_
      refine lv_iload_n hx hb dX9_plans_64 rfl (lv_at hl 2 rfl) ?_
      refine lr_aload_n hx hb dX9_plans_65 rfl (lv_at hl 1 rfl) ?_
      obtain ⟨t5, e_t5, h⟩ := bn h
      refine gf_X9_13 hC hG hM e_t5 dX9_plans_66 ?_
      refine lv_iload_n hx hb dX9_plans_69 rfl (lv_at hl 0 rfl) ?_
      obtain ⟨t6, e_t6, h⟩ := bn h
      refine g_lald hx hb hG hM e_t6 dX9_plans_70 ?_
      obtain ⟨m7, e_m7, h⟩ := bn h
      refine g_last hx hb hG hM e_m7 dX9_plans_71 (fun H locs hM => ?_)
      refine lr_aload_n hx hb dX9_plans_72 rfl (lv_at hl 1 rfl) ?_
      obtain ⟨t8, e_t8, h⟩ := bn h
      refine gf_X9_17 hC hG hM e_t8 dX9_plans_73 ?_
      refine lv_iload_n hx hb dX9_plans_76 rfl (lv_at hl 2 rfl) ?_
      refine lr_aload_n hx hb dX9_plans_77 rfl (lv_at hl 1 rfl) ?_
      obtain ⟨t9, e_t9, h⟩ := bn h
      refine gf_X9_17 hC hG hM e_t9 dX9_plans_78 ?_
      refine lv_iload_n hx hb dX9_plans_81 rfl (lv_at hl 0 rfl) ?_
      obtain ⟨t10, e_t10, h⟩ := bn h
      refine g_iald hx hb hG hM e_t10 dX9_plans_82 ?_
      obtain ⟨m11, e_m11, h⟩ := bn h
      refine g_iast hx hb hG hM e_m11 dX9_plans_83 (fun H locs hM => ?_)
      refine lr_aload_n hx hb dX9_plans_84 rfl (lv_at hl 1 rfl) ?_
      obtain ⟨t12, e_t12, h⟩ := bn h
      refine gf_X9_20 hC hG hM e_t12 dX9_plans_85 ?_
      refine lv_iload_n hx hb dX9_plans_88 rfl (lv_at hl 2 rfl) ?_
      refine lr_aload_n hx hb dX9_plans_89 rfl (lv_at hl 1 rfl) ?_
      obtain ⟨t13, e_t13, h⟩ := bn h
      refine gf_X9_20 hC hG hM e_t13 dX9_plans_90 ?_
      refine lv_iload_n hx hb dX9_plans_93 rfl (lv_at hl 0 rfl) ?_
      obtain ⟨t14, e_t14, h⟩ := bn h
      refine g_iald hx hb hG hM e_t14 dX9_plans_94 ?_
      obtain ⟨m15, e_m15, h⟩ := bn h
      refine g_iast hx hb hG hM e_m15 dX9_plans_95 (fun H locs hM => ?_)
      refine lr_aload_n hx hb dX9_plans_96 rfl (lv_at hl 1 rfl) ?_
      obtain ⟨t16, e_t16, h⟩ := bn h
      refine gf_X9_23 hC hG hM e_t16 dX9_plans_97 ?_
      refine lv_iload_n hx hb dX9_plans_100 rfl (lv_at hl 2 rfl) ?_
      refine lr_aload_n hx hb dX9_plans_101 rfl (lv_at hl 1 rfl) ?_
      obtain ⟨t17, e_t17, h⟩ := bn h
      refine gf_X9_23 hC hG hM e_t17 dX9_plans_102 ?_
      refine lv_iload_n hx hb dX9_plans_105 rfl (lv_at hl 0 rfl) ?_
      obtain ⟨t18, e_t18, h⟩ := bn h
      refine g_iald hx hb hG hM e_t18 dX9_plans_106 ?_
      obtain ⟨m19, e_m19, h⟩ := bn h
      refine g_iast hx hb hG hM e_m19 dX9_plans_107 (fun H locs hM => ?_)
      refine lr_aload_n hx hb dX9_plans_108 rfl (lv_at hl 1 rfl) ?_
      obtain ⟨t20, e_t20, h⟩ := bn h
      refine gf_X9_26 hC hG hM e_t20 dX9_plans_109 ?_
      refine lv_iload_n hx hb dX9_plans_112 rfl (lv_at hl 2 rfl) ?_
      refine lr_aload_n hx hb dX9_plans_113 rfl (lv_at hl 1 rfl) ?_
      obtain ⟨t21, e_t21, h⟩ := bn h
      refine gf_X9_26 hC hG hM e_t21 dX9_plans_114 ?_
      refine lv_iload_n hx hb dX9_plans_117 rfl (lv_at hl 0 rfl) ?_
      obtain ⟨t22, e_t22, h⟩ := bn h
      refine g_iald hx hb hG hM e_t22 dX9_plans_118 ?_
      obtain ⟨m23, e_m23, h⟩ := bn h
      refine g_iast hx hb hG hM e_m23 dX9_plans_119 (fun H locs hM => ?_)
      refine lv_iconst (v := 0) hx hb dX9_plans_120 (by decide) ?_
      refine lv_istore_n (lv' := [(3, .int 0), (2, .int t3), (0, va_rf (Option.map ad (some o0))), (1, .int x1)]) hx hb dX9_plans_121 rfl hl (by decide) (by first | rfl | simp [va_cat]) (fun ls hl => ?_)
      exact wX9_plans_b122 hC hG hR Kr ih FU _ _ _ _ _ _ _ _ h hM (lv_sub hl [2, 3, 1, 0] rfl)
def fX9_plans (o0 : Nat) (σ : Mem) : Option (Int32 × Mem) :=
  (pI σ 9 0 (some o0) 0).bind fun m1 =>
    (fI m1 9 2 (some o0)).bind fun t2 =>
    (pI m1 9 3 (some o0) t2).bind fun m3 =>
    (pI m3 9 2 (some o0) 0).bind fun m4 =>
    (pI m4 9 8 (some o0) 0).bind fun m5 =>
    (kT m5 9 (some o0)).bind fun k6 =>
    b2 (fX9_readText k6 m5) fun t7 m8 =>
    if t7 = 0 then (fI m8 9 9 (some o0)).bind fun t12 =>
      some ((-1) - t12, m8)
    else (fI m8 9 24 (some o0)).bind fun t10 =>
      (pI m8 9 22 (some o0) t10).bind fun m11 =>
      fX9_plans_b47 FU o0 0 m11
set_option maxRecDepth 20000 in
theorem wX9_plans {r : Int32} {σ' : Mem} (hC : CallFix p m c cX9_plans 7 s args WALL RX9) (hG : GS D cy A s) (hR : 6 ≤ R.frames ∧ 216 ≤ R.locals) (Kr : KrI p l e R s m args below meth c cX9_plans Q D cy ad A z r σ') (o0 : Nat) (σ : Mem) (H : Heap) (locs : List Loc) (ls : Array Slot) (h : fX9_plans o0 σ = some (r, σ')) (hM : MS D cy ad A s.heap z σ H locs) (hl : lv_has ls 7 [(0, va_rf (Option.map ad (some o0)))]) : W p l e R s m args below meth c H locs 0 0 Q (F0 m 0 ls []) := by
  have hx := hC.1
  have hb := hC.2.1
  unfold fX9_plans at h
  refine lr_aload_n hx hb dX9_plans_0 rfl (lv_at hl 0 rfl) ?_
  refine lv_iconst (v := 0) hx hb dX9_plans_1 (by decide) ?_
  obtain ⟨m1, e_m1, h⟩ := bn h
  refine pf_X9_87 hC hG hM e_m1 dX9_plans_2 (fun H locs hM => ?_)
  refine lr_aload_n hx hb dX9_plans_5 rfl (lv_at hl 0 rfl) ?_
  refine lr_aload_n hx hb dX9_plans_6 rfl (lv_at hl 0 rfl) ?_
  obtain ⟨t2, e_t2, h⟩ := bn h
  refine gf_X9_91 hC hG hM e_t2 dX9_plans_7 ?_
  obtain ⟨m3, e_m3, h⟩ := bn h
  refine pf_X9_98 hC hG hM e_m3 dX9_plans_10 (fun H locs hM => ?_)
  refine lr_aload_n hx hb dX9_plans_13 rfl (lv_at hl 0 rfl) ?_
  refine lv_iconst (v := 0) hx hb dX9_plans_14 (by decide) ?_
  obtain ⟨m4, e_m4, h⟩ := bn h
  refine pf_X9_91 hC hG hM e_m4 dX9_plans_15 (fun H locs hM => ?_)
  refine lr_aload_n hx hb dX9_plans_18 rfl (lv_at hl 0 rfl) ?_
  refine lv_iconst (v := 0) hx hb dX9_plans_19 (by decide) ?_
  obtain ⟨m5, e_m5, h⟩ := bn h
  refine pf_X9_162 hC hG hM e_m5 dX9_plans_20 (fun H locs hM => ?_)
  refine lr_aload_n hx hb dX9_plans_23 rfl (lv_at hl 0 rfl) ?_
  obtain ⟨k6, e_k6, h⟩ := bn h
  obtain ⟨t7, m8, e_m8, h⟩ := b2_elim h
  refine cs_X9_202 e_k6 hC hG hM (cX9_readText_ok e_m8) ⟨by omega, by omega⟩ hl.1 (by first | exact Nat.le_of_ble_eq_true rfl | simp [va_cat, vcI, vcL, vcR]) dX9_plans_24 (fun H locs hM => ?_)
  refine lv_if_ne (tgt := 37) hx hb dX9_plans_27 (by decide) (fun c9 => ?_) (fun c9 => ?_)
  · rw [if_neg c9] at h
    refine lr_aload_n hx hb dX9_plans_37 rfl (lv_at hl 0 rfl) ?_
    refine lr_aload_n hx hb dX9_plans_38 rfl (lv_at hl 0 rfl) ?_
    obtain ⟨t10, e_t10, h⟩ := bn h
    refine gf_X9_196 hC hG hM e_t10 dX9_plans_39 ?_
    obtain ⟨m11, e_m11, h⟩ := bn h
    refine pf_X9_205 hC hG hM e_m11 dX9_plans_42 (fun H locs hM => ?_)
    refine lv_iconst (v := 0) hx hb dX9_plans_45 (by decide) ?_
    refine lv_istore_n (lv' := [(1, .int 0), (0, va_rf (Option.map ad (some o0)))]) hx hb dX9_plans_46 rfl hl (by decide) (by first | rfl | simp [va_cat]) (fun ls hl => ?_)
    exact wX9_plans_b47 hC hG hR Kr FU _ _ _ _ _ _ h hM (lv_sub hl [1, 0] rfl)
  · rw [if_pos c9] at h
    refine lv_iconst (v := (-1)) hx hb dX9_plans_30 (by decide) ?_
    refine lr_aload_n hx hb dX9_plans_31 rfl (lv_at hl 0 rfl) ?_
    obtain ⟨t12, e_t12, h⟩ := bn h
    refine gf_X9_165 hC hG hM e_t12 dX9_plans_32 ?_
    refine lv_isub hx hb dX9_plans_35 ?_
    obtain ⟨rfl, rfl⟩ := Prod.mk.inj (Option.some.inj h)
    exact Kr _ _ _ _ dX9_plans_36 hM
theorem cX9_plans_ok {l : Launch} {D : va_G} {cy : Nat → ClassId} {ad : Nat → Nat} {A : Nat → Prop} {z : Nat} {r : Int32} {σ' : Mem} {o0 : Nat} {σ : Mem} (h : fX9_plans o0 σ = some (r, σ')) : CtI l yX9_plans cX9_plans 7 (some .int) 6 [.ref (ad o0)] D cy ad A z σ r σ' :=
  enterI (own := RX9) (by decide) rfl (Nat.le_of_ble_eq_true rfl) rfl (fun p e s m below meth c Q ls hC hG hM Kr hl => wX9_plans hC hG ⟨Nat.le_refl _, Nat.le_refl _⟩ Kr _ _ _ _ _ h hM hl)
end WK
