/-! rows of plans as paths: a path's key is its cost and its digits in one number; the best row has the least key -/
abbrev GD : Type := Nat × Nat × (Nat → Nat → Nat) × (Nat → Nat → Prop) × (Nat → Nat → Prop) × (Nat → Nat)
def gP (g : GD) : Nat := g.1
def gW (g : GD) : Nat := g.2.1
def gC (g : GD) (q m : Nat) : Nat := g.2.2.1 q m
def gO (g : GD) (q m : Nat) : Prop := g.2.2.2.1 q m
def gB (g : GD) (q m : Nat) : Prop := g.2.2.2.2.1 q m
def gT (g : GD) (q : Nat) : Nat := g.2.2.2.2.2 q
def okG (g : GD) : Prop := gP g ≤ 10 ∧ (∀ q, q < gP g → 1 ≤ gT g q ∧ gT g q ≤ 24) ∧ (∀ q m, q < gP g → m < 24 → gC g q m ≤ 3200679999) ∧ gW g ≤ 100000
def ee (m : Nat) : Nat := 10 ^ (24 - m)
theorem ee_s {m : Nat} (h : m < 24) : ee m = 10 * ee (m + 1) := by
  unfold ee
  rw [show 24 - m = (24 - (m + 1)) + 1 by omega, Nat.pow_succ, Nat.mul_comm]
theorem ee_pos (m : Nat) : 0 < ee m := Nat.pow_pos (by decide)
theorem ee_le (m : Nat) : ee m ≤ 1000000000000000000000000 := by
  have : 10 ^ (24 - m) ≤ 10 ^ 24 := Nat.pow_le_pow_right (by decide) (by omega)
  exact this
theorem q_ee {q m : Nat} (hq : q < 10) (hm : m < 24) : q * ee (m + 1) + ee (m + 1) ≤ ee m := by
  have : (q + 1) * ee (m + 1) ≤ 10 * ee (m + 1) := Nat.mul_le_mul_right _ (by omega)
  rw [ee_s hm]
  rw [Nat.add_mul] at this
  omega
def Lst (S : Nat → Prop) (o : Option Nat) : Prop := match o with
  | none => ∀ x, ¬ S x
  | some v => S v ∧ ∀ x, S x → v ≤ x
theorem Lst_u {S : Nat → Prop} {o o' : Option Nat} (h : Lst S o) (h' : Lst S o') : o = o' := by
  cases o with
  | none => cases o' with
    | none => rfl
    | some v => exact absurd h'.1 (h v)
  | some u => cases o' with
    | none => exact absurd h.1 (h' u)
    | some v =>
      have h1 := h.2 v h'.1
      have h2 := h'.2 u h.1
      rw [Nat.le_antisymm h1 h2]
theorem Lst_x {S T : Nat → Prop} {o : Option Nat} (h : ∀ x, S x ↔ T x) (hS : Lst S o) : Lst T o := by
  have : S = T := funext fun x => propext (h x)
  rw [← this]; exact hS
/-- suffixes: n months up to b, plan p ahead, k months of its term left -/
def SP (g : GD) (b : Nat) : Nat → Nat → Nat → Nat → Prop
  | 0, _, _, x => x = 0
  | n + 1, p, k, x => ∃ q y, q < gP g ∧ gO g q (b - (n + 1)) ∧ ((q = p ∧ SP g b n p (k - 1) y ∧ x = gC g q (b - (n + 1)) * 1000000000000000000000000 + q * ee (b - n) + y) ∨ (q ≠ p ∧ k = 0 ∧ gB g q (b - (n + 1)) ∧ SP g b n q (gT g q - 1) y ∧ x = (gC g q (b - (n + 1)) + gW g) * 1000000000000000000000000 + q * ee (b - n) + y))
theorem SP_s {g : GD} {b m n p k x : Nat} (h : m + n + 1 = b) : SP g b (n + 1) p k x ↔ ∃ q y, q < gP g ∧ gO g q m ∧ ((q = p ∧ SP g b n p (k - 1) y ∧ x = gC g q m * 1000000000000000000000000 + q * ee (m + 1) + y) ∨ (q ≠ p ∧ k = 0 ∧ gB g q m ∧ SP g b n q (gT g q - 1) y ∧ x = (gC g q m + gW g) * 1000000000000000000000000 + q * ee (m + 1) + y)) := by
  show (∃ q y, q < gP g ∧ gO g q (b - (n + 1)) ∧ ((q = p ∧ SP g b n p (k - 1) y ∧ x = gC g q (b - (n + 1)) * 1000000000000000000000000 + q * ee (b - n) + y) ∨ (q ≠ p ∧ k = 0 ∧ gB g q (b - (n + 1)) ∧ SP g b n q (gT g q - 1) y ∧ x = (gC g q (b - (n + 1)) + gW g) * 1000000000000000000000000 + q * ee (b - n) + y))) ↔ _
  rw [show b - (n + 1) = m by omega, show b - n = m + 1 by omega]
theorem SP_b {g : GD} {b : Nat} (hg : okG g) (hb : b ≤ 24) : ∀ n m p k x, m + n = b → SP g b n p k x → ∃ C D, x = C * 1000000000000000000000000 + D ∧ D < ee m ∧ C ≤ n * 3200779999 := by
  intro n
  induction n with
  | zero =>
    intro m p k x _ h
    have h : x = 0 := h
    exact ⟨0, 0, by omega, ee_pos m, by omega⟩
  | succ n ih =>
    intro m p k x hm h
    obtain ⟨q, y, hq, -, h⟩ := (SP_s (m := m) (by omega)).mp h
    have h1 := hg.1
    have h2 := hg.2.2.1 q m hq (by omega)
    have h3 := hg.2.2.2
    have h4 := q_ee (q := q) (m := m) (by omega) (by omega)
    rcases h with ⟨-, hy, e⟩ | ⟨-, -, -, hy, e⟩
    · obtain ⟨C, D, e1, e2, e3⟩ := ih (m + 1) _ _ y (by omega) hy
      exact ⟨gC g q m + C, q * ee (m + 1) + D, by rw [Nat.add_mul]; omega, by omega, by rw [Nat.succ_mul]; omega⟩
    · obtain ⟨C, D, e1, e2, e3⟩ := ih (m + 1) _ _ y (by omega) hy
      exact ⟨gC g q m + gW g + C, q * ee (m + 1) + D, by rw [Nat.add_mul]; omega, by omega, by rw [Nat.succ_mul]; omega⟩
theorem SP_k {g : GD} {b m n p k x : Nat} (h : m + n + 1 = b) : SP g b (n + 1) p (k + 1) x ↔ p < gP g ∧ gO g p m ∧ ∃ y, SP g b n p k y ∧ x = gC g p m * 1000000000000000000000000 + p * ee (m + 1) + y := by
  rw [SP_s h]
  constructor
  · rintro ⟨q, y, h1, h2, ⟨rfl, h3, h4⟩ | ⟨-, h3, -⟩⟩
    · exact ⟨h1, h2, y, h3, h4⟩
    · omega
  · rintro ⟨h1, h2, y, h3, h4⟩
    exact ⟨p, y, h1, h2, Or.inl ⟨rfl, h3, h4⟩⟩
/-- months of one plan -/
def ws (g : GD) (p m : Nat) : Nat → Nat
  | 0 => 0
  | j + 1 => ws g p m j + (gC g p (m + j) * 1000000000000000000000000 + p * ee (m + j + 1))
def cs (g : GD) (p m : Nat) : Nat → Nat
  | 0 => 0
  | j + 1 => cs g p m j + gC g p (m + j)
theorem ws_b {g : GD} {p m : Nat} (hp : p < 10) : ∀ j, m + j ≤ 24 → ∃ D, ws g p m j = cs g p m j * 1000000000000000000000000 + D ∧ D + ee (m + j) ≤ ee m := by
  intro j
  induction j with
  | zero => intro _; exact ⟨0, by simp [ws, cs], by simp⟩
  | succ j ih =>
    intro hj
    obtain ⟨D, e1, e2⟩ := ih (by omega)
    have h4 := q_ee (q := p) (m := m + j) hp (by omega)
    refine ⟨D + p * ee (m + j + 1), ?_, by rw [← Nat.add_assoc m j 1]; omega⟩
    show ws g p m j + (gC g p (m + j) * 1000000000000000000000000 + p * ee (m + j + 1)) = (cs g p m j + gC g p (m + j)) * 1000000000000000000000000 + _
    rw [Nat.add_mul]
    omega
theorem SP_f {g : GD} {b m n p k : Nat} (h : m + n = b) : ∀ j, j ≤ n → j ≤ k → ∀ x, SP g b n p k x ↔ (0 < j → p < gP g) ∧ (∀ i, i < j → gO g p (m + i)) ∧ ∃ y, SP g b (n - j) p (k - j) y ∧ x = ws g p m j + y := by
  intro j
  induction j with
  | zero =>
    intro _ _ x
    constructor
    · intro hx
      exact ⟨fun q => absurd q (by decide), fun i hi => absurd hi (Nat.not_lt_zero i), x, hx, by show x = 0 + x; omega⟩
    · rintro ⟨-, -, y, hy, e⟩
      have e : x = 0 + y := e
      rw [show x = y by omega]; exact hy
  | succ j ih =>
    intro hj hk x
    rw [ih (by omega) (by omega) x]
    have e1 : n - j = (n - (j + 1)) + 1 := by omega
    have e2 : k - j = (k - (j + 1)) + 1 := by omega
    have ew : ws g p m (j + 1) = ws g p m j + (gC g p (m + j) * 1000000000000000000000000 + p * ee (m + j + 1)) := rfl
    constructor
    · rintro ⟨-, h2, y, h3, h4⟩
      rw [e1, e2, SP_k (m := m + j) (by omega)] at h3
      obtain ⟨q1, q2, z, q3, q4⟩ := h3
      refine ⟨fun _ => q1, fun i hi => ?_, z, q3, by rw [ew]; omega⟩
      by_cases c : i = j
      · rw [c]; exact q2
      · exact h2 i (by omega)
    · rintro ⟨h1, h2, z, h3, h4⟩
      refine ⟨fun _ => h1 (by omega), fun i hi => h2 i (by omega), gC g p (m + j) * 1000000000000000000000000 + p * ee (m + j + 1) + z, ?_, by rw [ew] at h4; omega⟩
      rw [e1, e2, SP_k (m := m + j) (by omega)]
      exact ⟨h1 (by omega), h2 j (by omega), z, h3, rfl⟩
/-- prefixes: months a .. a + i, in q for age months (no more than its term) -/
def tr (g : GD) (m p ag q age y x : Nat) : Prop := (p = q ∧ age = (if ag < gT g q then ag + 1 else ag) ∧ x = y + (gC g q m * 1000000000000000000000000 + q * ee (m + 1))) ∨ (p ≠ q ∧ ag = gT g p ∧ gB g q m ∧ age = 1 ∧ x = y + ((gC g q m + gW g) * 1000000000000000000000000 + q * ee (m + 1)))
def PP (g : GD) (a : Nat) : Nat → Nat → Nat → Nat → Prop
  | 0, q, age, x => q < gP g ∧ gB g q a ∧ gO g q a ∧ age = 1 ∧ x = gC g q a * 1000000000000000000000000 + q * ee (a + 1)
  | i + 1, q, age, x => q < gP g ∧ gO g q (a + i + 1) ∧ ∃ p ag y, PP g a i p ag y ∧ tr g (a + i + 1) p ag q age y x
theorem PP_a {g : GD} {a : Nat} (hg : okG g) : ∀ i q age x, PP g a i q age x → q < gP g ∧ 1 ≤ age ∧ age ≤ gT g q := by
  intro i
  induction i with
  | zero =>
    rintro q age x ⟨h1, -, -, rfl, -⟩
    exact ⟨h1, Nat.le_refl _, (hg.2.1 q h1).1⟩
  | succ i ih =>
    rintro q age x ⟨h1, -, p, ag, y, h2, ⟨rfl, h3, -⟩ | ⟨-, -, -, rfl, -⟩⟩
    · obtain ⟨-, i2, i3⟩ := ih _ _ _ h2
      refine ⟨h1, ?_, ?_⟩ <;> (rw [h3]; split <;> omega)
    · exact ⟨h1, Nat.le_refl _, (hg.2.1 q h1).1⟩
def FP (g : GD) (a b i x : Nat) : Prop := ∃ q age y z, PP g a i q age y ∧ SP g b (b - (a + i + 1)) q (gT g q - age) z ∧ x = y + z
theorem FP_s {g : GD} {a b i x : Nat} (hg : okG g) (h : a + i + 1 < b) : FP g a b i x ↔ FP g a b (i + 1) x := by
  have e : b - (a + i + 1) = (b - (a + (i + 1) + 1)) + 1 := by omega
  have hm : (a + i + 1) + (b - (a + (i + 1) + 1)) + 1 = b := by omega
  constructor
  · rintro ⟨p, ag, y, z, h1, h2, rfl⟩
    obtain ⟨-, a2, a3⟩ := PP_a hg _ _ _ _ h1
    rw [e, SP_s hm] at h2
    obtain ⟨q, u, q1, q2, ⟨rfl, q3, q4⟩ | ⟨q3, q4, q5, q6, q7⟩⟩ := h2
    · refine ⟨q, (if ag < gT g q then ag + 1 else ag), y + (gC g q (a + i + 1) * 1000000000000000000000000 + q * ee (a + i + 1 + 1)), u, ⟨q1, q2, q, ag, y, h1, Or.inl ⟨rfl, rfl, rfl⟩⟩, ?_, by omega⟩
      have : gT g q - (if ag < gT g q then ag + 1 else ag) = gT g q - ag - 1 := by split <;> omega
      rw [this]; exact q3
    · exact ⟨q, 1, y + ((gC g q (a + i + 1) + gW g) * 1000000000000000000000000 + q * ee (a + i + 1 + 1)), u, ⟨q1, q2, p, ag, y, h1, Or.inr ⟨fun z => q3 z.symm, by omega, q5, rfl, rfl⟩⟩, q6, by omega⟩
  · rintro ⟨q, age, y, z, ⟨h1, h2, p, ag, u, h3, h4⟩, h5, rfl⟩
    obtain ⟨a1, a2, a3⟩ := PP_a hg _ _ _ _ h3
    rcases h4 with ⟨rfl, q1, q2⟩ | ⟨q1, q2, q3, rfl, q5⟩
    · refine ⟨p, ag, u, gC g p (a + i + 1) * 1000000000000000000000000 + p * ee (a + i + 1 + 1) + z, h3, ?_, by omega⟩
      rw [e, SP_s hm]
      refine ⟨p, z, h1, h2, Or.inl ⟨rfl, ?_, rfl⟩⟩
      have : gT g p - age = gT g p - ag - 1 := by rw [q1]; split <;> omega
      rw [← this]; exact h5
    · refine ⟨p, ag, u, (gC g q (a + i + 1) + gW g) * 1000000000000000000000000 + q * ee (a + i + 1 + 1) + z, h3, ?_, by omega⟩
      rw [e, SP_s hm]
      exact ⟨q, z, h1, h2, Or.inr ⟨fun z => q1 z.symm, by omega, q3, h5, rfl⟩⟩
theorem FP_0 {g : GD} {a b : Nat} (hg : okG g) : ∀ i, a + i + 1 ≤ b → ∀ x, FP g a b 0 x ↔ FP g a b i x := by
  intro i
  induction i with
  | zero => intro _ x; exact Iff.rfl
  | succ i ih =>
    intro hi x
    rw [ih (by omega) x]
    exact FP_s hg (by omega)
/-- where a plan begins in a month -/
def BG (g : GD) (b m q x : Nat) : Prop := gB g q m ∧ SP g b (b - m) q (gT g q) x
theorem FP_B {g : GD} {a b x : Nat} (hg : okG g) (h : a < b) : FP g a b 0 x ↔ ∃ q, q < gP g ∧ BG g b a q x := by
  have e : b - a = (b - (a + 0 + 1)) + 1 := by omega
  constructor
  · rintro ⟨q, age, y, z, ⟨h1, h2, h3, rfl, rfl⟩, h5, rfl⟩
    refine ⟨q, h1, h2, ?_⟩
    have := (hg.2.1 q h1).1
    rw [e, show gT g q = (gT g q - 1) + 1 by omega, SP_k (m := a) (by omega)]
    exact ⟨h1, h3, z, h5, rfl⟩
  · rintro ⟨q, h1, h2, h3⟩
    have := (hg.2.1 q h1).1
    rw [e, show gT g q = (gT g q - 1) + 1 by omega, SP_k (m := a) (by omega)] at h3
    obtain ⟨-, k1, z, k2, k3⟩ := h3
    exact ⟨q, 1, _, z, ⟨h1, h2, k1, rfl, rfl⟩, k2, k3⟩
theorem FP_E {g : GD} {a b x : Nat} (hg : okG g) (h : a < b) : FP g a b 0 x ↔ ∃ q age, PP g a (b - a - 1) q age x := by
  rw [FP_0 hg (b - a - 1) (by omega) x]
  unfold FP
  rw [show b - (a + (b - a - 1) + 1) = 0 by omega]
  constructor
  · rintro ⟨q, age, y, z, h1, h2, rfl⟩
    have h2 : z = 0 := h2
    exact ⟨q, age, by rw [h2]; exact h1⟩
  · rintro ⟨q, age, h1⟩
    exact ⟨q, age, x, 0, h1, rfl, rfl⟩
/-! digits -/
def cd (f : Nat → Nat) (a : Nat) : Nat → Nat
  | 0 => 0
  | n + 1 => cd f a n + f (a + n) * ee (a + n + 1)
theorem cd_x {f f' : Nat → Nat} {a : Nat} : ∀ n, (∀ i, i < n → f (a + i) = f' (a + i)) → cd f a n = cd f' a n := by
  intro n
  induction n with
  | zero => intro _; rfl
  | succ n ih =>
    intro h
    show cd f a n + f (a + n) * ee (a + n + 1) = cd f' a n + f' (a + n) * ee (a + n + 1)
    rw [ih (fun i hi => h i (by omega)), h n (by omega)]
theorem cd_t {f : Nat → Nat} {a k : Nat} : ∀ n, k ≤ n → a + n ≤ 24 → (∀ i, i < n → f (a + i) < 10) → cd f a n + ee (a + n) ≤ cd f a k + ee (a + k) ∧ cd f a k ≤ cd f a n := by
  intro n
  induction n with
  | zero =>
    intro h _ _
    have : k = 0 := by omega
    subst this
    exact ⟨Nat.le_refl _, Nat.le_refl _⟩
  | succ n ih =>
    intro h hn hf
    by_cases e : k = n + 1
    · subst e; exact ⟨Nat.le_refl _, Nat.le_refl _⟩
    · obtain ⟨i1, i2⟩ := ih (by omega) (by omega) (fun i hi => hf i (by omega))
      have h4 := q_ee (q := f (a + n)) (m := a + n) (hf n (by omega)) (by omega)
      have ec : cd f a (n + 1) = cd f a n + f (a + n) * ee (a + n + 1) := rfl
      rw [ec, ← Nat.add_assoc a n 1]
      omega
theorem cd_lt {f f' : Nat → Nat} {a n k : Nat} (hk : k < n) (hn : a + n ≤ 24) (hf : ∀ i, i < n → f (a + i) < 10) (hf' : ∀ i, i < n → f' (a + i) < 10) (he : ∀ i, i < k → f (a + i) = f' (a + i)) (hl : f (a + k) < f' (a + k)) : cd f a n < cd f' a n := by
  have h1 := (cd_t (f := f) (a := a) (k := k + 1) n hk hn hf).1
  have h2 := (cd_t (f := f') (a := a) (k := k + 1) n hk hn hf').2
  have h3 := cd_x (f := f) (f' := f') (a := a) k he
  have h4 : (f (a + k) + 1) * ee (a + k + 1) ≤ f' (a + k) * ee (a + k + 1) := Nat.mul_le_mul_right _ hl
  have e1 : cd f a (k + 1) = cd f a k + f (a + k) * ee (a + k + 1) := rfl
  have e2 : cd f' a (k + 1) = cd f' a k + f' (a + k) * ee (a + k + 1) := rfl
  have h5 := ee_pos (a + n)
  rw [Nat.add_mul] at h4
  rw [← Nat.add_assoc a k 1] at h1
  omega
theorem cd_i {f f' : Nat → Nat} {a n : Nat} (hn : a + n ≤ 24) (hf : ∀ i, i < n → f (a + i) < 10) (hf' : ∀ i, i < n → f' (a + i) < 10) (h : cd f a n = cd f' a n) : ∀ i, i < n → f (a + i) = f' (a + i) := by
  intro i hi
  refine Decidable.byContradiction fun hne => ?_
  obtain ⟨k, ⟨k1, k2⟩, k3⟩ := pk_least (fun k => k < n ∧ f (a + k) ≠ f' (a + k)) ⟨i, hi, hne⟩
  have k4 : ∀ j, j < k → f (a + j) = f' (a + j) := fun j hj => Decidable.byContradiction fun z => k3 j hj ⟨by omega, z⟩
  by_cases c : f (a + k) < f' (a + k)
  · have := cd_lt k1 hn hf hf' k4 c
    omega
  · have := cd_lt k1 hn hf' hf (fun j hj => (k4 j hj).symm) (by omega)
    omega
theorem cd_p {f : Nat → Nat} {a : Nat} : ∀ n, cd f a (n + 1) = f a * ee (a + 1) + cd f (a + 1) n := by
  intro n
  induction n with
  | zero => show 0 + f (a + 0) * ee (a + 0 + 1) = f a * ee (a + 1) + 0; simp
  | succ n ih =>
    show cd f a (n + 1) + f (a + (n + 1)) * ee (a + (n + 1) + 1) = f a * ee (a + 1) + (cd f (a + 1) n + f (a + 1 + n) * ee (a + 1 + n + 1))
    rw [ih, show a + (n + 1) = a + 1 + n by omega]
    omega
theorem cd_b {f : Nat → Nat} {a n : Nat} (hn : a + n ≤ 24) (hf : ∀ i, i < n → f (a + i) < 10) : cd f a n < 1000000000000000000000000 := by
  have h1 := (cd_t (f := f) (a := a) (k := 0) n (Nat.zero_le _) hn hf).1
  have h2 := ee_pos (a + n)
  have h3 := ee_le (a + 0)
  have e : cd f a 0 = 0 := rfl
  omega
/-- two ways to tell one key -/
theorem key_u {c c' D D' : Nat} (h : c * 1000000000000000000000000 + D = c' * 1000000000000000000000000 + D') (hD : D < 1000000000000000000000000) (hD' : D' < 1000000000000000000000000) : c = c' ∧ D = D' := by omega
