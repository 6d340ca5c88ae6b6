/-! the static shape of the memory -/
def kb (i : Nat) : Nat := if i = 0 then 3 else if i = 1 then 15 else if (i - 2) % 14 = 0 then 2 else if (i - 2) % 14 = 1 then 14 else if ((i - 2) % 14 - 2) % 3 = 0 then 0 else 11
def k0 (c : Nat) : Nat :=
  if c < 4 then [8, 6, 10, 4].getD c 99 else if c < 146 then kb (c - 4) else if c < 162 then [7, 11, 11, 5, 12, 12, 12, 11, 1, 12, 12, 11, 11, 11, 11, 11].getD (c - 146) 99
  else if c < 304 then kb (c - 162) else [9, 11, 12, 11, 11, 11, 11, 13, 11, 11, 11, 11, 11, 11, 11, 12, 12, 11, 11, 11, 12, 12, 11, 11, 11, 11, 12].getD (c - 304) 99
def lb (i : Nat) : Nat := if i = 0 then 0 else if i = 1 then 10 else if (i - 2) % 14 = 0 then 0 else if (i - 2) % 14 = 1 then 4 else if ((i - 2) % 14 - 2) % 3 = 0 then 0 else 3
def l0 (c : Nat) : Nat :=
  if c < 4 then [0, 0, 840, 0].getD c 0 else if c < 146 then lb (c - 4) else if c < 162 then [0, 384, 4, 0, 240, 240, 240, 240, 0, 16, 16, 16, 4, 4, 4, 24].getD (c - 146) 0
  else if c < 304 then lb (c - 162) else [0, 840, 20, 20, 20, 20, 20, 80, 80, 80, 240, 240, 80, 8, 384, 250, 250, 6000, 6000, 24, 16, 16, 16, 4, 4, 4, 1].getD (c - 304) 0
def rb (b i k : Nat) : Option Nat := if i = 0 then (if k = 0 then some (b + 1) else none) else if i = 1 then (if k < 10 then some (b + 2 + 14 * k) else none)
  else if (i - 2) % 14 = 0 then (if k = 0 then some (b + i + 1) else none) else if (i - 2) % 14 = 1 then (if k < 4 then some (b + i + 1 + 3 * k) else none)
  else if ((i - 2) % 14 - 2) % 3 = 0 then (if k < 2 then some (b + i + 1 + k) else none) else none
def r304 (k : Nat) : Option Nat := if k = 1 then some 305 else if 11 ≤ k ∧ k ≤ 21 then some (295 + k) else if k = 25 then some 317 else if k = 27 then some 318 else if 29 ≤ k ∧ k ≤ 33 then some (290 + k) else if 36 ≤ k ∧ k ≤ 41 then some (288 + k) else none
def r0 (c k : Nat) : Option Nat :=
  if c = 0 then [1, 3, 146, 149, 154, 159, 160, 161][k]? else if c = 1 then (if k = 0 then some 2 else none) else if c = 3 then (if k = 0 then some 1 else none)
  else if c < 4 then none else if c < 146 then rb 4 (c - 4) k else if c = 146 then (if k < 2 then some (147 + k) else none) else if c = 149 then (if k < 4 then some (150 + k) else none) else if c = 154 then (if k < 4 then some (155 + k) else none)
  else if c < 162 then none else if c < 304 then rb 162 (c - 162) k else if c = 304 then r304 k else none
def ST (σ : Mem) : Prop := σ.1 = 331 ∧ (∀ c, c < 331 → σ.2.1 c = k0 c ∧ gL σ c = l0 c) ∧ ∀ c k d, c < 331 → k < 42 → r0 c k = some d → gR σ c k = some d
def σa0 : Mem := (fX8_init 0 (al σ00 8 0)).getD σ00
def σb0 : Mem := (fX9_init 304 (al σa0 9 0)).getD σ00
def σI0 : Mem := al σb0 12 1
theorem ia_some : (fX8_init 0 (al σ00 8 0)).isSome = true := by decide +kernel
theorem ia_n : gN σa0 = 304 := by decide +kernel
theorem ib_some : (fX9_init 304 (al σa0 9 0)).isSome = true := by decide +kernel
theorem ib_n : gN σb0 = 330 := by decide +kernel
theorem iI_k : ∀ c, c < 331 → σI0.2.1 c = k0 c ∧ gL σI0 c = l0 c := by decide +kernel
theorem iI_r : ∀ c, c < 331 → ∀ k, k < 42 → (match r0 c k with | none => true | some d => decide (gR σI0 c k = some d)) = true := by decide +kernel
theorem ST_I : ST σI0 := by
  refine ⟨by decide +kernel, iI_k, fun c k d hc hk h => ?_⟩
  have := iI_r c hc k hk
  rw [h] at this
  exact of_decide_eq_true this
