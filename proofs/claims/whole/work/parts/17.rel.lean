/-! reading the memory behind writes -/
theorem gI_sI_s {σ : Mem} {c k : Nat} {v : Int32} : gI (sI σ c k v) c = upd (gI σ c) k v := by funext j; simp [gI, sI, upd]
theorem gI_sI_n {σ : Mem} {c k a : Nat} {v : Int32} (h : a ≠ c) : gI (sI σ c k v) a = gI σ a := by funext j; simp [gI, sI, h]
theorem gI_sJ {σ : Mem} {c k a : Nat} {v : Int64} : gI (sJ σ c k v) a = gI σ a := rfl
theorem gI_sR {σ : Mem} {c k a : Nat} {v : Option Nat} : gI (sR σ c k v) a = gI σ a := rfl
theorem gJ_sI {σ : Mem} {c k a : Nat} {v : Int32} : gJ (sI σ c k v) a = gJ σ a := rfl
theorem gJ_sR {σ : Mem} {c k a : Nat} {v : Option Nat} : gJ (sR σ c k v) a = gJ σ a := rfl
theorem gJ_sJ_s {σ : Mem} {c k : Nat} {v : Int64} : gJ (sJ σ c k v) c = vp_updL (gJ σ c) k v := by funext j; simp [gJ, sJ, vp_updL]
theorem gJ_sJ_n {σ : Mem} {c k a : Nat} {v : Int64} (h : a ≠ c) : gJ (sJ σ c k v) a = gJ σ a := by funext j; simp [gJ, sJ, h]
theorem gR_sI {σ : Mem} {c k a : Nat} {v : Int32} : gR (sI σ c k v) a = gR σ a := rfl
theorem gR_sJ {σ : Mem} {c k a : Nat} {v : Int64} : gR (sJ σ c k v) a = gR σ a := rfl
theorem gR_sR_s {σ : Mem} {c k : Nat} {v : Option Nat} : gR (sR σ c k v) c = va_up (gR σ c) k v := by funext j; simp [gR, sR, va_up]
theorem gR_sR_n {σ : Mem} {c k a : Nat} {v : Option Nat} (h : a ≠ c) : gR (sR σ c k v) a = gR σ a := by funext j; simp [gR, sR, h]
theorem q_k {σ : Mem} (h : ST σ) {c : Nat} (hc : c < 331) {k : Nat} (hk : k0 c = k) : kd σ c = k := by
  unfold kd
  rw [if_pos (by rw [h.1]; exact hc), (h.2.1 c hc).1, hk]
theorem q_l {σ : Mem} (h : ST σ) {c : Nat} (hc : c < 331) {n : Nat} (hn : l0 c = n) : gL σ c = n := (h.2.1 c hc).2.trans hn
theorem q_r {σ : Mem} (h : ST σ) {c k d : Nat} (hc : c < 331) (hk : k < 42) (hd : r0 c k = some d) : gR σ c k = some d := h.2.2 c k d hc hk hd
theorem q_sI {σ : Mem} (h : ST σ) (c k : Nat) (v : Int32) : ST (sI σ c k v) := h
theorem q_sJ {σ : Mem} (h : ST σ) (c k : Nat) (v : Int64) : ST (sJ σ c k v) := h
theorem q_sR {σ : Mem} (h : ST σ) {c k : Nat} (v : Option Nat) (hd : r0 c k = none) : ST (sR σ c k v) := by
  refine ⟨h.1, h.2.1, fun a j d ha hj hr => ?_⟩
  have := h.2.2 a j d ha hj hr
  by_cases e : a = c ∧ j = k
  · rw [e.1, e.2, hd] at hr
    cases hr
  · unfold gR at this ⊢
    simp [sR, e, this]
/-- what the model's primitives answer where the shape is known -/
theorem q_fI {σ : Mem} (h : ST σ) {c k j : Nat} (hc : c < 331) (hk : k0 c = k) : fI σ k j (some c) = some (gI σ c j) := by
  show (if kd σ c = k then some (gI σ c j) else none) = _
  rw [if_pos (q_k h hc hk)]
theorem q_fJ {σ : Mem} (h : ST σ) {c k j : Nat} (hc : c < 331) (hk : k0 c = k) : fJ σ k j (some c) = some (gJ σ c j) := by
  show (if kd σ c = k then some (gJ σ c j) else none) = _
  rw [if_pos (q_k h hc hk)]
theorem q_fR {σ : Mem} (h : ST σ) {c k j d : Nat} (hc : c < 331) (hk : k0 c = k) (hj : j < 42) (hd : r0 c j = some d) : fR σ k j (some c) = some (some d) := by
  show (if kd σ c = k then some (gR σ c j) else none) = _
  rw [if_pos (q_k h hc hk), q_r h hc hj hd]
theorem q_fRd {σ : Mem} (h : ST σ) {c k j : Nat} (hc : c < 331) (hk : k0 c = k) : fR σ k j (some c) = some (gR σ c j) := by
  show (if kd σ c = k then some (gR σ c j) else none) = _
  rw [if_pos (q_k h hc hk)]
theorem q_pI {σ : Mem} (h : ST σ) {c k j : Nat} {x : Int32} (hc : c < 331) (hk : k0 c = k) : pI σ k j (some c) x = some (sI σ c j x) := by
  show (if kd σ c = k then some (sI σ c j x) else none) = _
  rw [if_pos (q_k h hc hk)]
theorem q_pJ {σ : Mem} (h : ST σ) {c k j : Nat} {x : Int64} (hc : c < 331) (hk : k0 c = k) : pJ σ k j (some c) x = some (sJ σ c j x) := by
  show (if kd σ c = k then some (sJ σ c j x) else none) = _
  rw [if_pos (q_k h hc hk)]
theorem q_pR {σ : Mem} (h : ST σ) {c k j : Nat} {x : Option Nat} (hc : c < 331) (hk : k0 c = k) : pR σ k j (some c) x = some (sR σ c j x) := by
  show (if kd σ c = k then some (sR σ c j x) else none) = _
  rw [if_pos (q_k h hc hk)]
theorem in_n {i n : Nat} {x : Int32} (hx : x = nI i) (h : i < n) (hn : n < 2 ^ 31) : ¬ (x < 0 ∨ n ≤ x.toNatClampNeg) := by
  rw [hx]
  exact vp_in_nI h hn
theorem q_aI {σ : Mem} (h : ST σ) {c k n i : Nat} {x : Int32} (hc : c < 331) (hk : k0 c = k) (hl : l0 c = n) (hx : x = nI i) (hi : i < n) (hn : n < 2 ^ 31) : aI σ k (some c) x = some (gI σ c i) := by
  show (if kd σ c = k then (if x < 0 ∨ gL σ c ≤ x.toNatClampNeg then none else some (gI σ c x.toNatClampNeg)) else none) = _
  rw [if_pos (q_k h hc hk), q_l h hc hl, if_neg (in_n hx hi hn), hx, nI_clamp (by omega)]
theorem q_aJ {σ : Mem} (h : ST σ) {c k n i : Nat} {x : Int32} (hc : c < 331) (hk : k0 c = k) (hl : l0 c = n) (hx : x = nI i) (hi : i < n) (hn : n < 2 ^ 31) : aJ σ k (some c) x = some (gJ σ c i) := by
  show (if kd σ c = k then (if x < 0 ∨ gL σ c ≤ x.toNatClampNeg then none else some (gJ σ c x.toNatClampNeg)) else none) = _
  rw [if_pos (q_k h hc hk), q_l h hc hl, if_neg (in_n hx hi hn), hx, nI_clamp (by omega)]
theorem q_aR {σ : Mem} (h : ST σ) {c k n i : Nat} {x : Int32} (hc : c < 331) (hk : k0 c = k) (hl : l0 c = n) (hx : x = nI i) (hi : i < n) (hn : n < 2 ^ 31) : aR σ k (some c) x = some (gR σ c i) := by
  show (if kd σ c = k then (if x < 0 ∨ gL σ c ≤ x.toNatClampNeg then none else some (gR σ c x.toNatClampNeg)) else none) = _
  rw [if_pos (q_k h hc hk), q_l h hc hl, if_neg (in_n hx hi hn), hx, nI_clamp (by omega)]
theorem q_wI {σ : Mem} (h : ST σ) {c k n i : Nat} {x y : Int32} (hc : c < 331) (hk : k0 c = k) (hl : l0 c = n) (hx : x = nI i) (hi : i < n) (hn : n < 2 ^ 31) : wI σ k (some c) x y = some (sI σ c i y) := by
  show (if kd σ c = k then (if x < 0 ∨ gL σ c ≤ x.toNatClampNeg then none else some (sI σ c x.toNatClampNeg y)) else none) = _
  rw [if_pos (q_k h hc hk), q_l h hc hl, if_neg (in_n hx hi hn), hx, nI_clamp (by omega)]
theorem q_wJ {σ : Mem} (h : ST σ) {c k n i : Nat} {x : Int32} {y : Int64} (hc : c < 331) (hk : k0 c = k) (hl : l0 c = n) (hx : x = nI i) (hi : i < n) (hn : n < 2 ^ 31) : wJ σ k (some c) x y = some (sJ σ c i y) := by
  show (if kd σ c = k then (if x < 0 ∨ gL σ c ≤ x.toNatClampNeg then none else some (sJ σ c x.toNatClampNeg y)) else none) = _
  rw [if_pos (q_k h hc hk), q_l h hc hl, if_neg (in_n hx hi hn), hx, nI_clamp (by omega)]
theorem q_aL {σ : Mem} (h : ST σ) {c k n : Nat} (hc : c < 331) (hk : k0 c = k) (hl : l0 c = n) : aL σ k (some c) = some (nI n) := by
  show (if kd σ c = k then some (nI (gL σ c)) else none) = _
  rw [if_pos (q_k h hc hk), q_l h hc hl]
theorem q_kT {σ : Mem} (h : ST σ) {c k : Nat} (hc : c < 331) (hk : k0 c = k) : kT σ k (some c) = some c := by
  show (if kd σ c = k then some c else none) = _
  rw [if_pos (q_k h hc hk)]
theorem bs {α β : Type} (x : α) (f : α → Option β) : (some x).bind f = f x := rfl
theorem b2s {α γ β : Type} (x : α) (y : γ) (f : α → γ → Option β) : b2 (some (x, y)) f = f x y := rfl
/-! the relation between the class's state and the reference's, in one memory -/
def bN (n : Nat) (x : Int32) : Prop := ∃ t : Nat, t ≤ n ∧ x = nI t
def R_tape (n : Int32) (bt : Nat → Int32) (m : Int32) (ts : Nat → Int32) : Prop := n = m ∧ bN 840 n ∧ ∀ j, j < 840 → ts j = bt j &&& 255 ∧ bN 255 (ts j)
def R_use (u v : Nat → Int32) : Prop := ∀ i, i < 384 → u i = v i ∧ bN 20000 (u i)
def R_chg (a b : Int32) : Prop := a = b ∧ bN 100000 a
def R_span (l g l' g' : Nat → Int32) : Prop := ∀ i, i < 4 → l i = l' i ∧ g i = g' i ∧ ∃ a b : Nat, a ≤ b ∧ b ≤ 20000 ∧ l i = nI a ∧ g i = nI b
def R_row (row : Nat → Int32) (begun ended : Int32) (rr : Nat → Int32) : Prop := ∃ a b : Nat, a ≤ b ∧ b ≤ 24 ∧ begun = nI a ∧ ended = nI b ∧ ∀ i, i < 24 → row i = if a ≤ i ∧ i < b then rr (i - a) else -1
def R_grp (g g' : Nat → Int32) : Prop := ∀ i, i < 4 → bN 15 (g' i) ∧ g i = if g' i = 0 then -1 else g' i
def enc (b : Nat) (z : Nat) : List Nat → Nat → Nat
  | [], a => a
  | x :: l, a => enc b z l (a * b + (x - z))
def isN (l : List Nat) : Prop := 1 ≤ l.length ∧ l.length ≤ 8 ∧ ∀ x ∈ l, 97 ≤ x ∧ x ≤ 122
def R_name (a : Int64) (len : Int32) (v : Int64) : Prop := ∃ l : List Nat, isN l ∧ len = nI l.length ∧ a = lN (enc 256 0 l 0) ∧ v = lN (enc 27 96 l 0)
def R_out (len : Int32) (a : Int64) (outs : Int32) (out : Nat → Int32) : Prop := (len = 0 ∧ outs = 0) ∨ ∃ l : List Nat, isN l ∧ len = nI l.length ∧ outs = nI l.length ∧ a = lN (enc 256 0 l 0) ∧ ∀ i, i < l.length → out i = nI (l.getD i 0)
def R_part (σ : Mem) (q k : Nat) : Prop := gI σ q 2 = gI σ 312 k ∧ bN 20000 (gI σ q 2) ∧ gI σ q 3 = gI σ 313 k ∧ gI σ q 4 = gI σ 316 k ∧ bN 9999 (gI σ q 4) ∧ ∃ n : Nat, n ≤ 3 ∧ gI σ q 3 = nI n ∧ ∃ en : Nat → Nat, (∀ i, i < n → gI σ (q + 1) i = nI (en i) ∧ gI σ 314 (3 * k + i) = nI (en i) ∧ 1 ≤ en i ∧ en i ≤ 20000 ∧ gI σ (q + 2) i = gI σ 315 (3 * k + i) ∧ bN 9999 (gI σ (q + 2) i)) ∧ ∀ i, i + 1 < n → en i < en (i + 1)
def R_plan (σ : Mem) (c r : Nat) : Prop := gI σ c 3 = gI σ 307 r ∧ bN 999999 (gI σ c 3) ∧ gI σ c 4 = gI σ 308 r ∧ (∃ t : Nat, 1 ≤ t ∧ t ≤ 24 ∧ gI σ c 4 = nI t) ∧ gI σ c 5 = gI σ 309 r ∧ gI σ c 6 = gI σ 310 r ∧ (∃ a b : Nat, a ≤ b ∧ b ≤ 23 ∧ gI σ c 5 = nI a ∧ gI σ c 6 = nI b) ∧ R_name (gJ σ c 1) (gI σ c 2) (gJ σ 306 r) ∧ ∃ sv : Nat, sv < 16 ∧ gI σ c 7 = nI sv ∧ ∀ i, i < 4 → gI σ 311 (4 * r + i) = (if sv.testBit i then 1 else 0) ∧ (sv.testBit i = true → R_part σ (c + 2 + 3 * i) (4 * r + i))
def R_book (σ : Mem) : Prop := ∃ b b' : Nat, ((b = 4 ∧ b' = 162) ∨ (b = 162 ∧ b' = 4)) ∧ gR σ 0 8 = some b ∧ gR σ 3 1 = some b' ∧ ∃ P : Nat, P ≤ 10 ∧ gI σ b 1 = nI P ∧ gI σ 304 22 = nI P ∧ ∀ p, p < P → R_plan σ (b + 2 + 14 * p) p
def Rel (σ : Mem) : Prop := ST σ ∧ R_tape (gI σ 1 1) (gI σ 2) (gI σ 304 2) (gI σ 305) ∧ gI σ 3 4 = gI σ 304 8 ∧ R_use (gI σ 147) (gI σ 318) ∧ R_chg (gI σ 0 9) (gI σ 304 28) ∧ R_span (gI σ 159) (gI σ 160) (gI σ 328) (gI σ 329) ∧ R_row (gI σ 161) (gI σ 304 34) (gI σ 304 35) (gI σ 323) ∧ R_grp (gI σ 158) (gI σ 327) ∧ R_out (gI σ 0 11) (gJ σ 0 10) (gI σ 304 26) (gI σ 317) ∧ R_book σ
theorem z0i : ∀ j, j < 840 → gI σI0 305 j = 0 ∧ gI σI0 2 j = 0 := by decide +kernel
theorem z1i : ∀ j, j < 384 → gI σI0 147 j = 0 ∧ gI σI0 318 j = 0 := by decide +kernel
theorem z2i : ∀ j, j < 4 → gI σI0 159 j = 0 ∧ gI σI0 160 j = 0 ∧ gI σI0 328 j = 0 ∧ gI σI0 329 j = 0 ∧ gI σI0 327 j = 0 ∧ gI σI0 158 j = -1 := by decide +kernel
theorem z3i : ∀ j, j < 24 → gI σI0 161 j = -1 := by decide +kernel
theorem z4i : gI σI0 1 1 = 0 ∧ gI σI0 304 2 = 0 ∧ gI σI0 3 4 = 0 ∧ gI σI0 304 8 = 0 ∧ gI σI0 0 9 = 0 ∧ gI σI0 304 28 = 0 ∧ gI σI0 304 34 = 0 ∧ gI σI0 304 35 = 0 ∧ gI σI0 0 11 = 0 ∧ gI σI0 304 26 = 0 ∧ gI σI0 162 1 = 0 ∧ gI σI0 304 22 = 0 := by decide +kernel
theorem z5i : gR σI0 0 8 = some 162 ∧ gR σI0 3 1 = some 4 := by decide +kernel
theorem bN0 (n : Nat) : bN n 0 := ⟨0, Nat.zero_le _, rfl⟩
theorem Rel_I : Rel σI0 := by
  obtain ⟨a1, a2, a3, a4, a5, a6, a7, a8, a9, a10, a11, a12⟩ := z4i
  refine ⟨ST_I, ⟨by rw [a1, a2], by rw [a1]; exact bN0 _, fun j hj => ?_⟩, by rw [a3, a4], fun i hi => ?_, ⟨by rw [a5, a6], by rw [a5]; exact bN0 _⟩, fun i hi => ?_, ⟨0, 0, Nat.le_refl _, by decide, a7, a8, fun i hi => ?_⟩, fun i hi => ?_, Or.inl ⟨a9, a10⟩, ⟨162, 4, Or.inr ⟨rfl, rfl⟩, z5i.1, z5i.2, 0, by decide, a11, a12, fun p hp => absurd hp (Nat.not_lt_zero p)⟩⟩
  · rw [(z0i j hj).1, (z0i j hj).2]
    exact ⟨by decide, bN0 _⟩
  · rw [(z1i i hi).1, (z1i i hi).2]
    exact ⟨rfl, bN0 _⟩
  · obtain ⟨b1, b2, b3, b4, -, -⟩ := z2i i hi
    rw [b1, b2, b3, b4]
    exact ⟨rfl, rfl, 0, 0, Nat.le_refl _, by decide, rfl, rfl⟩
  · rw [z3i i hi, if_neg (by omega)]
  · obtain ⟨-, -, -, -, b5, b6⟩ := z2i i hi
    rw [b5, b6]
    exact ⟨bN0 _, rfl⟩
theorem INIT_ok : INIT Rel := by
  have e1 : fX8_init 0 (al σ00 8 0) = some σa0 := by
    have := ia_some
    unfold σa0
    cases h : fX8_init 0 (al σ00 8 0) with
    | none => rw [h] at this; cases this
    | some x => rfl
  have e2 : fX9_init 304 (al σa0 9 0) = some σb0 := by
    have := ib_some
    unfold σb0
    cases h : fX9_init 304 (al σa0 9 0) with
    | none => rw [h] at this; cases this
    | some x => rfl
  exact ⟨σa0, σb0, e1, ia_n, e2, ib_n, Rel_I⟩
