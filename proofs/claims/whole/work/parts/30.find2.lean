/-! the reference's search: a month's loops -/
theorem PP_b {g : GD} {a : Nat} (hg : okG g) : ∀ i q age x, a + i < 24 → PP g a i q age x → ∃ C D, x = C * 1000000000000000000000000 + D ∧ D + ee (a + i + 1) ≤ ee a ∧ C ≤ (i + 1) * 3200779999 := by
  have h1 := hg.1
  have h3 := hg.2.2.2
  intro i
  induction i with
  | zero =>
    rintro q age x ha ⟨hq, -, -, -, rfl⟩
    have h2 := hg.2.2.1 q a hq (by omega)
    have h4 := q_ee (q := q) (m := a) (by omega) (by omega)
    exact ⟨gC g q a, q * ee (a + 1), rfl, h4, by omega⟩
  | succ i ih =>
    rintro q age x ha ⟨hq, -, p, ag, y, h5, h6⟩
    have h2 := hg.2.2.1 q (a + i + 1) hq (by omega)
    have h4 := q_ee (q := q) (m := a + i + 1) (by omega) (by omega)
    obtain ⟨C, D, e1, e2, e3⟩ := ih p ag y (by omega) h5
    rw [Nat.succ_mul]
    rcases h6 with ⟨rfl, -, rfl⟩ | ⟨-, -, -, -, rfl⟩
    · exact ⟨C + gC g p (a + i + 1), D + p * ee (a + i + 1 + 1), by rw [Nat.add_mul]; omega, by rw [← Nat.add_assoc a i 1]; omega, by omega⟩
    · exact ⟨C + (gC g q (a + i + 1) + gW g), D + q * ee (a + i + 1 + 1), by rw [Nat.add_mul]; omega, by rw [← Nat.add_assoc a i 1]; omega, by omega⟩
/-- the tables of the month ahead -/
def CUR (g : GD) (a i : Nat) (σ : Mem) : Prop := ∀ q age, q < gP g → 1 ≤ age → age ≤ gT g q → ∃ o, Lst (PP g a i q age) o ∧ KO σ a (i + 1) (25 * q + age) o
def NXT (g : GD) (a n : Nat) (S : Nat → Nat → Nat → Prop) (σ : Mem) : Prop := ∀ q age, q < gP g → 1 ≤ age → age ≤ gT g q → ∃ o, Lst (S q age) o ∧ KQ σ q a n (25 * q + age) o
def Pz (Q P A q p ag : Nat) : Prop := q < Q ∨ (q = Q ∧ (p < P ∨ (p = P ∧ ag < A)))
def OS (g : GD) (a i Q P A q age x : Nat) : Prop := q < gP g ∧ gO g q (a + i + 1) ∧ ∃ p ag y, Pz Q P A q p ag ∧ p < gP g ∧ 1 ≤ ag ∧ ag ≤ gT g p ∧ Lst (PP g a i p ag) (some y) ∧ tr g (a + i + 1) p ag q age y x
theorem OS_1 {g : GD} {a i Q P A q age x : Nat} (hP : P < gP g) (hA : 1 ≤ A) (hA2 : A ≤ gT g P) : OS g a i Q P (A + 1) q age x ↔ OS g a i Q P A q age x ∨ (q = Q ∧ q < gP g ∧ gO g q (a + i + 1) ∧ ∃ y, Lst (PP g a i P A) (some y) ∧ tr g (a + i + 1) P A q age y x) := by
  constructor
  · rintro ⟨h0, h1, p, ag, y, h2, h3, h4, h5, h6, h7⟩
    by_cases c : q = Q ∧ p = P ∧ ag = A
    · obtain ⟨rfl, rfl, rfl⟩ := c
      exact Or.inr ⟨rfl, h0, h1, y, h6, h7⟩
    · exact Or.inl ⟨h0, h1, p, ag, y, by unfold Pz at *; omega, h3, h4, h5, h6, h7⟩
  · rintro (⟨h0, h1, p, ag, y, h2, h3, h4, h5, h6, h7⟩ | ⟨rfl, h0, h1, y, h6, h7⟩)
    · exact ⟨h0, h1, p, ag, y, by unfold Pz at *; omega, h3, h4, h5, h6, h7⟩
    · exact ⟨h0, h1, P, A, y, by unfold Pz; omega, hP, hA, hA2, h6, h7⟩
theorem OS_2 {g : GD} {a i Q P q age x : Nat} : OS g a i Q P (gT g P + 1) q age x ↔ OS g a i Q (P + 1) 1 q age x := by
  constructor
  · rintro ⟨h0, h1, p, ag, y, h2, h3, h4, h5, h6, h7⟩
    exact ⟨h0, h1, p, ag, y, by unfold Pz at *; omega, h3, h4, h5, h6, h7⟩
  · rintro ⟨h0, h1, p, ag, y, h2, h3, h4, h5, h6, h7⟩
    refine ⟨h0, h1, p, ag, y, ?_, h3, h4, h5, h6, h7⟩
    unfold Pz at *
    by_cases c : p = P
    · subst c; omega
    · omega
theorem OS_3 {g : GD} {a i Q q age x : Nat} : OS g a i Q (gP g) 1 q age x ↔ OS g a i (Q + 1) 0 1 q age x := by
  constructor
  · rintro ⟨h0, h1, p, ag, y, h2, h3, h4, h5, h6, h7⟩
    exact ⟨h0, h1, p, ag, y, by unfold Pz at *; omega, h3, h4, h5, h6, h7⟩
  · rintro ⟨h0, h1, p, ag, y, h2, h3, h4, h5, h6, h7⟩
    exact ⟨h0, h1, p, ag, y, by unfold Pz at *; omega, h3, h4, h5, h6, h7⟩
theorem OS_4 {g : GD} {a i Q q age x : Nat} (hQ : ¬ gO g Q (a + i + 1)) : OS g a i Q 0 1 q age x ↔ OS g a i (Q + 1) 0 1 q age x := by
  constructor
  · rintro ⟨h0, h1, p, ag, y, h2, h3, h4, h5, h6, h7⟩
    exact ⟨h0, h1, p, ag, y, by unfold Pz at *; omega, h3, h4, h5, h6, h7⟩
  · rintro ⟨h0, h1, p, ag, y, h2, h3, h4, h5, h6, h7⟩
    refine ⟨h0, h1, p, ag, y, ?_, h3, h4, h5, h6, h7⟩
    unfold Pz at *
    by_cases c : q = Q
    · subst c; exact absurd h1 hQ
    · omega
theorem OS_5 {g : GD} {a i q age : Nat} {o : Option Nat} (hg : okG g) (hC : ∀ q age, q < gP g → 1 ≤ age → age ≤ gT g q → ∃ o, Lst (PP g a i q age) o) (h : Lst (OS g a i (gP g) 0 1 q age) o) : Lst (PP g a (i + 1) q age) o := by
  have up : ∀ x, OS g a i (gP g) 0 1 q age x → PP g a (i + 1) q age x := by
    rintro x ⟨h0, h1, p, ag, y, h2, h3, h4, h5, h6, h7⟩
    exact ⟨h0, h1, p, ag, y, h6.1, h7⟩
  have dn : ∀ x, PP g a (i + 1) q age x → ∃ z, z ≤ x ∧ OS g a i (gP g) 0 1 q age z := by
    rintro x ⟨h0, h1, p, ag, y, h2, h3⟩
    obtain ⟨k1, k2, k3⟩ := PP_a hg _ _ _ _ h2
    obtain ⟨o, ho⟩ := hC p ag k1 k2 k3
    cases o with
    | none => exact absurd h2 (ho y)
    | some u =>
      have hu := ho.2 y h2
      have hz : Pz (gP g) 0 1 q p ag := Or.inl h0
      rcases h3 with ⟨e1, e2, e3⟩ | ⟨e1, e2, e3, e4, e5⟩
      · exact ⟨u + (gC g q (a + i + 1) * 1000000000000000000000000 + q * ee (a + i + 1 + 1)), by omega, h0, h1, p, ag, u, hz, k1, k2, k3, ho, Or.inl ⟨e1, e2, rfl⟩⟩
      · exact ⟨u + ((gC g q (a + i + 1) + gW g) * 1000000000000000000000000 + q * ee (a + i + 1 + 1)), by rw [e5]; exact Nat.add_le_add_right hu _, h0, h1, p, ag, u, hz, k1, k2, k3, ho, Or.inr ⟨e1, e2, e3, e4, rfl⟩⟩
  cases o with
  | none =>
    intro x hx
    obtain ⟨z, -, hz⟩ := dn x hx
    exact h z hz
  | some v =>
    refine ⟨up v h.1, fun x hx => ?_⟩
    obtain ⟨z, hz1, hz⟩ := dn x hx
    have := h.2 z hz
    omega
def fq (c : Nat) (_ : Nat) : Prop := c = 320 ∨ c = 322
theorem KO_fr {σ τ : Mem} {a n s : Nat} {o : Option Nat} (h1 : gJ τ 319 = gJ σ 319) (h2 : gI τ 321 = gI σ 321) (h : KO σ a n s o) : KO τ a n s o := by
  cases o with
  | none => exact (congrFun h1 s).trans h
  | some v =>
    obtain ⟨c, f, k1, k2, k3, k4⟩ := h
    exact ⟨c, f, k1, (congrFun h1 s).trans k2, fun i hi => ⟨(k3 i hi).1, (congrFun h2 _).trans (k3 i hi).2⟩, k4⟩
theorem CUR_fr {g : GD} {a i : Nat} {σ τ : Mem} (F : Fr fq σ τ) (h : CUR g a i σ) : CUR g a i τ := by
  intro q age h1 h2 h3
  obtain ⟨o, o1, o2⟩ := h q age h1 h2 h3
  exact ⟨o, o1, KO_fr (F.eJ (by unfold fq; omega)) (F.eI (by unfold fq; omega)) o2⟩
theorem KQ_o {σ τ : Mem} {p a n s t : Nat} {o : Option Nat} (F : Fr (fun c j => (c = 320 ∧ j = t) ∨ (c = 322 ∧ 24 * t ≤ j ∧ j < 24 * t + 24)) σ τ) (hst : s ≠ t) (hn : n < 24) (h : KQ σ p a n s o) : KQ τ p a n s o := by
  cases o with
  | none => exact (F.2 320 s (by omega)).2.1.trans h
  | some v =>
    obtain ⟨c, f, k1, k2, k3, k4, k5⟩ := h
    exact ⟨c, f, k1, (F.2 320 s (by omega)).2.1.trans k2, fun i hi => ⟨(k3 i hi).1, (F.2 322 _ (by omega)).1.trans (k3 i hi).2⟩, (F.2 322 _ (by omega)).1.trans k4, k5⟩
/-- one offer in the tables -/
theorem nx_o {g : GD} {a n q age x : Nat} {S S' : Nat → Nat → Nat → Prop} {σ τ : Mem} {o : Option Nat} (hg : okG g) (hn : n < 24) (hq : q < gP g) (ha : age ≤ gT g q) (F : Fr (fun c j => (c = 320 ∧ j = 25 * q + age) ∨ (c = 322 ∧ 24 * (25 * q + age) ≤ j ∧ j < 24 * (25 * q + age) + 24)) σ τ) (hN : NXT g a n S σ) (ho : Lst (S q age) o) (hK : KQ τ q a n (25 * q + age) (om o x)) (hS : ∀ q' age' z, S' q' age' z ↔ S q' age' z ∨ (q' = q ∧ age' = age ∧ z = x)) : NXT g a n S' τ := by
  have t0 := (hg.2.1 q hq).2
  intro q' age' h1 h2 h3
  have t1 := (hg.2.1 q' h1).2
  by_cases c : q' = q ∧ age' = age
  · obtain ⟨rfl, rfl⟩ := c
    refine ⟨om o x, Lst_x (fun z => ?_) (Lst_om ho), hK⟩
    rw [hS]
    constructor
    · rintro (h | h)
      · exact Or.inl h
      · exact Or.inr ⟨rfl, rfl, h⟩
    · rintro (h | ⟨-, -, h⟩)
      · exact Or.inl h
      · exact Or.inr h
  · obtain ⟨o', k1, k2⟩ := hN q' age' h1 h2 h3
    refine ⟨o', Lst_x (fun z => ?_) k1, KQ_o F (by omega) hn k2⟩
    rw [hS]
    constructor
    · exact Or.inl
    · rintro (h | ⟨h4, h5, -⟩)
      · exact h
      · exact absurd ⟨h4, h5⟩ c
theorem NXT_x {g : GD} {a n : Nat} {S S' : Nat → Nat → Nat → Prop} {σ : Mem} (hN : NXT g a n S σ) (hS : ∀ q age z, S q age z ↔ S' q age z) : NXT g a n S' σ := by
  intro q age h1 h2 h3
  obtain ⟨o, o1, o2⟩ := hN q age h1 h2 h3
  exact ⟨o, Lst_x (hS q age) o1, o2⟩
theorem mBeg {σ : Mem} {w : WD} {q m : Nat} (hS : ST σ) (hw : okW w) (h9 : H9 σ w) (hq : q < w.1) (hm : m < 24) : fX9_mayBegin 304 (nI q) (nI m) σ = some (if (w.2.1 q).2.2.1 ≤ m ∧ m ≤ (w.2.1 q).2.2.2.1 then 1 else 0, σ) := by
  have hP := hw.1
  obtain ⟨-, -, -, l1, l2, -⟩ := hw.2.1 q hq
  obtain ⟨-, -, e1, e2, -⟩ := h9.2.1 q hq
  unfold fX9_mayBegin
  rw [u_R304_14 hS, bs, u_a309 hS (by omega), bs, e1]
  by_cases c1 : (w.2.1 q).2.2.1 ≤ m
  · rw [if_neg (nI_nlt c1 (by omega)), u_R304_15 hS, bs, u_a310 hS (by omega), bs, e2]
    by_cases c2 : m ≤ (w.2.1 q).2.2.2.1
    · rw [if_neg (nI_nlt c2 (by omega)), if_pos ⟨c1, c2⟩]; rfl
    · rw [if_pos (nI_lt (by omega) (by omega)), if_neg (fun z => c2 z.2)]; rfl
  · rw [if_pos (nI_lt (by omega) (by omega)), if_neg (fun z => c1 z.1)]; rfl
theorem trmA {σ : Mem} {w : WD} {q : Nat} (hS : ST σ) (hw : okW w) (h9 : H9 σ w) (hq : q < w.1) : aI σ 11 (some 308) (nI q) = some (nI (w.2.1 q).2.1) := by
  have hP := hw.1
  rw [u_a308 hS (by omega), (h9.2.1 q hq).2.1]
theorem H9_q {σ τ : Mem} {w : WD} {p : Nat → Nat → Prop} (F : Fr p σ τ) (hp : ∀ c k, p c k → 319 ≤ c ∧ c ≤ 322) (h : H9 σ w) : H9 τ w := by
  refine H9_Fr F (fun c hc k q => ?_) (fun k q => ?_) (fun q => ?_) (fun q => ?_) h <;> have := hp _ _ q <;> first | omega | skip
  unfold inBk at hc
  omega
