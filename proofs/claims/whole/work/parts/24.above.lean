/-! above: the difference is straight between corners -/
def lZ (z : Int) : Int64 := Int64.ofInt z
theorem lZ_toInt {z : Int} (h1 : -(2 ^ 62) < z) (h2 : z < 2 ^ 62) : (lZ z).toInt = z := Int64.toInt_ofInt_of_le (by omega) (by omega)
theorem lZ_lt {a b : Int} (a1 : -(2 ^ 62) < a) (a2 : a < 2 ^ 62) (b1 : -(2 ^ 62) < b) (b2 : b < 2 ^ 62) : lZ a < lZ b ↔ a < b := by
  rw [Int64.lt_iff_toInt_lt, lZ_toInt a1 a2, lZ_toInt b1 b2]
theorem lZ_le {a b : Int} (a1 : -(2 ^ 62) < a) (a2 : a < 2 ^ 62) (b1 : -(2 ^ 62) < b) (b2 : b < 2 ^ 62) : lZ a ≤ lZ b ↔ a ≤ b := by
  rw [Int64.le_iff_toInt_le, lZ_toInt a1 a2, lZ_toInt b1 b2]
theorem lZ_add (a b : Int) : lZ a + lZ b = lZ (a + b) := (Int64.ofInt_add a b).symm
theorem lN_Z (a : Nat) : lN a = lZ (a : Int) := Int64.ofInt_eq_ofNat.symm
theorem lN_subZ (a b : Nat) : lN a - lN b = lZ ((a : Int) - b) := by
  rw [lN_Z, lN_Z]
  exact (Int64.ofInt_sub _ _).symm
def isC (d : PD) (x : Nat) : Prop := ∃ k, k ≤ d.2.1 ∧ x = d.1 + ed d k
theorem sm_2 {d : PD} (hd : okP d) {y : Nat} (hy : ∀ k, k ≤ d.2.1 → y + 1 ≠ ed d k) : ∀ k, k ≤ d.2.1 → sm d (y + 2) k + sm d y k = 2 * sm d (y + 1) k := by
  intro k
  induction k with
  | zero => intro _; rfl
  | succ k ih =>
    intro hk
    have h1 := ih (by omega)
    have h2 := ed_mono hd hk
    have h3 := hy k (by omega)
    have h4 := hy (k + 1) hk
    have h5 : (min (y + 2) (ed d (k + 1)) - min (y + 2) (ed d k)) + (min y (ed d (k + 1)) - min y (ed d k)) = 2 * (min (y + 1) (ed d (k + 1)) - min (y + 1) (ed d k)) := by omega
    have h6 := congrArg (· * d.2.2.2.1 k) h5
    simp only [Nat.add_mul, Nat.mul_assoc] at h6
    show (sm d (y + 2) k + (min (y + 2) (ed d (k + 1)) - min (y + 2) (ed d k)) * d.2.2.2.1 k) + (sm d y k + (min y (ed d (k + 1)) - min y (ed d k)) * d.2.2.2.1 k) = 2 * (sm d (y + 1) k + (min (y + 1) (ed d (k + 1)) - min (y + 1) (ed d k)) * d.2.2.2.1 k)
    omega
theorem pco_2 {d : PD} (hd : okP d) {x : Nat} (hx : ¬ isC d (x + 1)) : pco d (x + 2) + pco d x = 2 * pco d (x + 1) := by
  by_cases c : d.1 ≤ x
  · have hy : ∀ k, k ≤ d.2.1 → (x - d.1) + 1 ≠ ed d k := fun k hk e => hx ⟨k, hk, by omega⟩
    have h1 := sm_2 hd hy d.2.1 (Nat.le_refl _)
    have h4 := hy d.2.1 (Nat.le_refl _)
    have h5 : ((x - d.1) + 2 - min ((x - d.1) + 2) (ed d d.2.1)) + ((x - d.1) - min (x - d.1) (ed d d.2.1)) = 2 * ((x - d.1) + 1 - min ((x - d.1) + 1) (ed d d.2.1)) := by omega
    have h6 := congrArg (· * d.2.2.2.2) h5
    simp only [Nat.add_mul, Nat.mul_assoc] at h6
    unfold pco
    rw [show x + 2 - d.1 = (x - d.1) + 2 by omega, show x + 1 - d.1 = (x - d.1) + 1 by omega]
    omega
  · have h0 : x + 1 ≠ d.1 := fun e => hx ⟨0, Nat.zero_le _, e⟩
    unfold pco
    rw [show x + 2 - d.1 = 0 by omega, show x + 1 - d.1 = 0 by omega, show x - d.1 = 0 by omega]
    omega
theorem far1 {f : Nat → Int} {C : Nat → Prop} {l g : Nat} {R : Int} (h2 : ∀ x, ¬ C (x + 1) → f (x + 2) + f x = 2 * f (x + 1)) (hl : f l ≤ R) (hg : f g ≤ R) (hC : ∀ x, C x → l ≤ x → x ≤ g → f x ≤ R) : ∀ x, l ≤ x → x ≤ g → f x ≤ R := by
  have right : ∀ n x, l ≤ x → x + n = g → (0 < n → f x ≤ f (x + 1)) → f x ≤ R := by
    intro n
    induction n with
    | zero => intro x _ h _; rw [show x = g by omega]; exact hg
    | succ n ih =>
      intro x h1 h3 h4
      have h5 := h4 (by omega)
      by_cases c : C (x + 1)
      · have := hC _ c (by omega) (by omega)
        omega
      · have h6 := h2 x c
        have := ih (x + 1) (by omega) (by omega) (fun _ => by show f (x + 1) ≤ f (x + 2); omega)
        omega
  have left : ∀ n x, x = l + n → x ≤ g → (∀ y, x = y + 1 → l ≤ y → f x ≤ f y) → f x ≤ R := by
    intro n
    induction n with
    | zero => intro x h _ _; rw [show x = l by omega]; exact hl
    | succ n ih =>
      intro x h1 h3 h4
      have h5 := h4 (l + n) (by omega) (by omega)
      by_cases c : C (l + n)
      · have := hC _ c (by omega) (by omega)
        omega
      · have := ih (l + n) rfl (by omega) (fun y hy hly => by
          have h6 := h2 y (by rw [← hy]; exact c)
          rw [← hy, show y + 2 = x by omega] at h6
          omega)
        omega
  intro x h1 h3
  by_cases c : C x
  · exact hC x c h1 h3
  by_cases e1 : x = l
  · rw [e1]; exact hl
  by_cases e2 : x = g
  · rw [e2]; exact hg
  by_cases dd : f x ≤ f (x + 1)
  · exact right (g - x) x h1 (by omega) (fun _ => dd)
  · refine left (x - l) x (by omega) h3 (fun y hy _ => ?_)
    have h6 := h2 y (by rw [← hy]; exact c)
    rw [← hy, show y + 2 = x + 1 by omega] at h6
    omega
def bt' (x4 : Int32) (a b : Int) : Prop := if x4 = 0 then b ≤ a else a ≤ b
def fu (x4 : Int32) (a b : Int) : Int := if x4 = 0 then (if b < a then b else a) else (if b < a then a else b)
theorem bt_rf {x4 : Int32} (a : Int) : bt' x4 a a := by unfold bt'; split <;> omega
theorem bt_tr {x4 : Int32} {a b c : Int} (h1 : bt' x4 a b) (h2 : bt' x4 b c) : bt' x4 a c := by
  unfold bt' at *
  split <;> simp_all <;> omega
theorem fu_1 (x4 : Int32) (a b : Int) : bt' x4 a (fu x4 a b) ∧ bt' x4 b (fu x4 a b) ∧ (fu x4 a b = a ∨ fu x4 a b = b) := by
  unfold bt' fu
  split
  · by_cases c : b < a
    · simp [c]; omega
    · simp [c]; omega
  · by_cases c : b < a
    · simp [c]; omega
    · simp [c]; omega
def Far (x4 : Int32) (f : Nat → Int) (l g : Nat) (R : Int) : Prop := (∃ x, l ≤ x ∧ x ≤ g ∧ R = f x) ∧ ∀ x, l ≤ x → x ≤ g → bt' x4 (f x) R
theorem Far_u {x4 : Int32} {f : Nat → Int} {l g : Nat} {R R' : Int} (h : Far x4 f l g R) (h' : Far x4 f l g R') : R = R' := by
  obtain ⟨⟨x, x1, x2, x3⟩, h2⟩ := h
  obtain ⟨⟨y, y1, y2, y3⟩, h4⟩ := h'
  have a := h2 y y1 y2
  have b := h4 x x1 x2
  rw [← y3] at a
  rw [← x3] at b
  unfold bt' at a b
  split at a
  · rename_i c
    rw [if_pos c] at b
    omega
  · rename_i c
    rw [if_neg c] at b
    omega
theorem far2 {x4 : Int32} {f : Nat → Int} {C : Nat → Prop} {l g : Nat} {R : Int} (h2 : ∀ x, ¬ C (x + 1) → f (x + 2) + f x = 2 * f (x + 1)) (hl : bt' x4 (f l) R) (hg : bt' x4 (f g) R) (hC : ∀ x, C x → l ≤ x → x ≤ g → bt' x4 (f x) R) : ∀ x, l ≤ x → x ≤ g → bt' x4 (f x) R := by
  unfold bt' at *
  by_cases c : x4 = 0
  · simp only [if_pos c] at *
    intro x h1 h3
    have := far1 (f := fun x => -(f x)) (C := C) (l := l) (g := g) (R := -R) (fun x hx => by have := h2 x hx; omega) (by omega) (by omega) (fun x a b d => by have := hC x a b d; omega) x h1 h3
    omega
  · simp only [if_neg c] at *
    exact far1 h2 hl hg hC
/-- the difference of two parts -/
def df (d e : PD) (x : Nat) : Int := (pco d x : Int) - (pco e x : Int)
theorem df_b {d e : PD} (hd : okP d) (he : okP e) {x : Nat} (hx : x ≤ 80000) : -(2 ^ 30) < df d e x ∧ df d e x < 2 ^ 30 := by
  have h1 := pco_le hd x
  have h2 := pco_le he x
  unfold df
  omega
theorem df_2 {d e : PD} (hd : okP d) (he : okP e) {x : Nat} (hx : ¬ (isC d (x + 1) ∨ isC e (x + 1))) : df d e (x + 2) + df d e x = 2 * df d e (x + 1) := by
  have h1 := pco_2 hd (fun q => hx (Or.inl q))
  have h2 := pco_2 he (fun q => hx (Or.inr q))
  unfold df
  omega
theorem dAt {σ : Mem} {b p q s u : Nat} {d e : PD} (hS : ST σ) (hb : isB b) (hp : p < 10) (hq : q < 10) (hs : s < 4) (hd : okP d) (he : okP e) (h : HP σ (Pt b p s) d) (h' : HP σ (Pt b q s) e) (hu : u ≤ 80000) : fX8_differenceAt (some (Pt b p s)) (some (Pt b q s)) (nI u) σ = some (lZ (df d e u), σ) := by
  unfold fX8_differenceAt df
  rw [v_kTT hS hb hp hs, bs, cF hS hb hp hs hd h hu, b2s, v_kTT hS hb hq hs, bs, cF hS hb hq hs he h' hu, b2s, lN_subZ]
theorem fur {σ : Mem} {a c : Int} {x4 : Int32} (a1 : -(2 ^ 62) < a) (a2 : a < 2 ^ 62) (b1 : -(2 ^ 62) < c) (b2 : c < 2 ^ 62) : fX8_further (lZ a) (lZ c) x4 σ = some (lZ (fu x4 a c), σ) := by
  unfold fX8_further fu fX8_further_b18
  have e := lZ_lt b1 b2 a1 a2
  by_cases q : x4 = 0
  · rw [if_pos q, if_pos q]
    by_cases r : c < a
    · rw [if_pos (e.mpr r), if_pos r]
    · rw [if_neg (fun z => r (e.mp z)), if_neg r]
  · rw [if_neg q, if_neg q]
    by_cases r : c < a
    · rw [if_pos (e.mpr r), if_pos r]
    · rw [if_neg (fun z => r (e.mp z)), if_neg r]
theorem corn {σ : Mem} {b p s k : Nat} {d : PD} (hS : ST σ) (hb : isB b) (hp : p < 10) (hs : s < 4) (hd : okP d) (h : HP σ (Pt b p s) d) (hk : k ≤ 3) : fX0_corner (Pt b p s) (nI k) σ = some (if k ≤ d.2.1 then nI (d.1 + ed d k) else -1, σ) := by
  obtain ⟨h1, h2, h3, h4⟩ := h
  have hn := hd.2.1
  unfold fX0_corner
  by_cases c : k = 0
  · subst c
    rw [if_pos (by decide), v_fIT hS hb hp hs, bs, h1, if_pos (Nat.zero_le _)]
    rfl
  · rw [if_neg (nI_ne0 (by omega) (by omega)), if_neg (nI_pos (by omega)), v_fIT hS hb hp hs, bs, h2]
    by_cases c2 : k ≤ d.2.1
    · rw [if_neg (nI_nlt c2 (by omega)), w_3, if_pos (nI_le hk (by decide)), v_fIT hS hb hp hs, bs, h1, v_RT0 hS hb hp hs, bs, w_1, pk_sub (by omega), v_aT1 hS hb hp hs (by omega), bs, (h4 (k - 1) (by omega)).1, nI_add, if_pos c2]
      have : ed d k = d.2.2.1 (k - 1) := by
        cases k with
        | zero => exact absurd rfl c
        | succ k => rfl
      rw [this]
      rfl
    · rw [if_pos (nI_lt (by omega) (by omega)), if_neg c2]
      rfl
/-- what is found so far -/
def In (x4 : Int32) (d e : PD) (l g K L : Nat) (R : Int) : Prop := (∃ x, l ≤ x ∧ x ≤ g ∧ R = df d e x) ∧ bt' x4 (df d e l) R ∧ bt' x4 (df d e g) R ∧ (∀ k, k < K → k ≤ d.2.1 → l ≤ d.1 + ed d k → d.1 + ed d k ≤ g → bt' x4 (df d e (d.1 + ed d k)) R) ∧ (∀ k, k < L → k ≤ e.2.1 → l ≤ e.1 + ed e k → e.1 + ed e k ≤ g → bt' x4 (df d e (e.1 + ed e k)) R)
theorem m1_in {l g : Nat} {σ : Mem} (hl : l < 2 ^ 31) : fX8_isWithin (-1) (nI l) (nI g) σ = some (0, σ) := by
  unfold fX8_isWithin
  rw [if_pos (by
    rw [Int32.lt_iff_toInt_lt, nI_toInt hl, show (-1 : Int32).toInt = -1 by decide]
    omega)]
  rfl
section
variable {σ : Mem} {b p q s l g : Nat} {d e : PD} {x4 : Int32}
theorem pA1 (hS : ST σ) (hb : isB b) (hp : p < 10) (hq : q < 10) (hs : s < 4) (hd : okP d) (he : okP e) (h : HP σ (Pt b p s) d) (h' : HP σ (Pt b q s) e) (hlg : l ≤ g) (hg : g ≤ 20000) (n : Nat) : ∀ k R, k ≤ 4 → 4 < k + n → In x4 d e l g k k R → ∃ R', fX8_partAbove_b40 n (some (Pt b p s)) (some (Pt b q s)) x4 (nI l) (nI g) (lZ R) (nI k) σ = some (lZ R', σ) ∧ In x4 d e l g 4 4 R' := by
  have rng {K L : Nat} {R : Int} (hI : In x4 d e l g K L R) : -(2 ^ 62) < R ∧ R < 2 ^ 62 := by
    obtain ⟨⟨x, x1, x2, x3⟩, -⟩ := hI
    have := df_b hd he (x := x) (by omega)
    omega
  induction n with
  | zero => intro k R hk hn; omega
  | succ n ih =>
    intro k R hk hn hI
    by_cases c : k < 4
    · have second (R : Int) (hI : In x4 d e l g (k + 1) k R) : ∃ R', fX8_partAbove_b82 (fX8_partAbove_b40 n) (some (Pt b p s)) (some (Pt b q s)) x4 (nI l) (nI g) (lZ R) (nI k) σ = some (lZ R', σ) ∧ In x4 d e l g 4 4 R' := by
        obtain ⟨r1, r2⟩ := rng hI
        obtain ⟨i1, i2, i3, i4, i5⟩ := hI
        have skip (hno : ¬ (k ≤ e.2.1 ∧ l ≤ e.1 + ed e k ∧ e.1 + ed e k ≤ g)) : ∃ R', fX8_partAbove_b118 (fX8_partAbove_b40 n) (some (Pt b p s)) (some (Pt b q s)) x4 (nI l) (nI g) (lZ R) (nI k) σ = some (lZ R', σ) ∧ In x4 d e l g 4 4 R' := by
          unfold fX8_partAbove_b118
          rw [bd_, nI_1]
          refine ih (k + 1) R (by omega) (by omega) ⟨i1, i2, i3, i4, fun j hj a1 a2 a3 => ?_⟩
          by_cases ee : j = k
          · subst ee; exact absurd ⟨a1, a2, a3⟩ hno
          · exact i5 j (by omega) a1 a2 a3
        unfold fX8_partAbove_b82
        rw [v_kTT hS hb hq hs, bs, corn hS hb hq hs he h' (by omega), b2s]
        by_cases c1 : k ≤ e.2.1
        · have o1 := he.1
          have o2 := ed_le he c1
          rw [if_pos c1, iwN (by omega) (by omega) (by omega), b2s]
          by_cases c2 : l ≤ e.1 + ed e k ∧ e.1 + ed e k ≤ g
          · have rr := df_b hd he (x := e.1 + ed e k) (by omega)
            obtain ⟨f1, f2, f3⟩ := fu_1 x4 R (df d e (e.1 + ed e k))
            rw [if_pos c2, if_neg (by decide), dAt hS hb hp hq hs hd he h h' (by omega), b2s, fur r1 r2 (by omega) (by omega), b2s]
            unfold fX8_partAbove_b118
            rw [bd_, nI_1]
            refine ih (k + 1) _ (by omega) (by omega) ⟨?_, bt_tr i2 f1, bt_tr i3 f1, fun j hj a1 a2 a3 => bt_tr (i4 j hj a1 a2 a3) f1, fun j hj a1 a2 a3 => ?_⟩
            · rcases f3 with f3 | f3
              · rw [f3]; exact i1
              · exact ⟨_, c2.1, c2.2, f3⟩
            · by_cases ee : j = k
              · subst ee; exact f2
              · exact bt_tr (i5 j (by omega) a1 a2 a3) f1
          · rw [if_neg c2, if_pos rfl]
            exact skip (fun z => c2 z.2)
        · rw [if_neg c1, m1_in (by omega), b2s, if_pos rfl]
          exact skip (fun z => c1 z.1)
      obtain ⟨r1, r2⟩ := rng hI
      obtain ⟨i1, i2, i3, i4, i5⟩ := hI
      have skip (hno : ¬ (k ≤ d.2.1 ∧ l ≤ d.1 + ed d k ∧ d.1 + ed d k ≤ g)) : In x4 d e l g (k + 1) k R := by
        refine ⟨i1, i2, i3, fun j hj a1 a2 a3 => ?_, i5⟩
        by_cases ee : j = k
        · subst ee; exact absurd ⟨a1, a2, a3⟩ hno
        · exact i4 j (by omega) a1 a2 a3
      have hd0 : fX8_partAbove_b40 (n + 1) (some (Pt b p s)) (some (Pt b q s)) x4 (nI l) (nI g) (lZ R) (nI k) σ = (if 3 < nI k then fX8_partAbove_b124 (lZ R) σ else (kT σ 0 (some (Pt b p s))).bind fun k2 => b2 (fX0_corner k2 (nI k) σ) fun t3 m4 => b2 (fX8_isWithin t3 (nI l) (nI g) m4) fun t5 m6 => if t5 = 0 then fX8_partAbove_b82 (fX8_partAbove_b40 n) (some (Pt b p s)) (some (Pt b q s)) x4 (nI l) (nI g) (lZ R) (nI k) m6 else b2 (fX8_differenceAt (some (Pt b p s)) (some (Pt b q s)) t3 m6) fun t8 m9 => b2 (fX8_further (lZ R) t8 x4 m9) fun t10 m11 => fX8_partAbove_b82 (fX8_partAbove_b40 n) (some (Pt b p s)) (some (Pt b q s)) x4 (nI l) (nI g) t10 (nI k) m11) := rfl
      rw [hd0, if_neg (by rw [w_3]; exact nI_nlt (by omega) (by omega)), v_kTT hS hb hp hs, bs, corn hS hb hp hs hd h (by omega), b2s]
      by_cases c1 : k ≤ d.2.1
      · have o1 := hd.1
        have o2 := ed_le hd c1
        rw [if_pos c1, iwN (by omega) (by omega) (by omega), b2s]
        by_cases c2 : l ≤ d.1 + ed d k ∧ d.1 + ed d k ≤ g
        · have rr := df_b hd he (x := d.1 + ed d k) (by omega)
          obtain ⟨f1, f2, f3⟩ := fu_1 x4 R (df d e (d.1 + ed d k))
          rw [if_pos c2, if_neg (by decide), dAt hS hb hp hq hs hd he h h' (by omega), b2s, fur r1 r2 (by omega) (by omega), b2s]
          refine second _ ⟨?_, bt_tr i2 f1, bt_tr i3 f1, fun j hj a1 a2 a3 => ?_, fun j hj a1 a2 a3 => bt_tr (i5 j hj a1 a2 a3) f1⟩
          · rcases f3 with f3 | f3
            · rw [f3]; exact i1
            · exact ⟨_, c2.1, c2.2, f3⟩
          · by_cases ee : j = k
            · subst ee; exact f2
            · exact bt_tr (i4 j (by omega) a1 a2 a3) f1
        · rw [if_neg c2, if_pos rfl]
          exact second R (skip (fun z => c2 z.2))
      · rw [if_neg c1, m1_in (by omega), b2s, if_pos rfl]
        exact second R (skip (fun z => c1 z.1))
    · have : k = 4 := by omega
      subst this
      exact ⟨R, rfl, hI⟩
theorem pA (hS : ST σ) (hb : isB b) (hp : p < 10) (hq : q < 10) (hs : s < 4) (hd : okP d) (he : okP e) (h : HP σ (Pt b p s) d) (h' : HP σ (Pt b q s) e) (hlg : l ≤ g) (hg : g ≤ 20000) (e1 : gI σ 159 s = nI l) (e2 : gI σ 160 s = nI g) : ∃ R, fX8_partAbove 0 (some (Pt b p s)) (some (Pt b q s)) (nI s) x4 σ = some (lZ R, σ) ∧ Far x4 (df d e) l g R := by
  have b1 := df_b hd he (x := l) (by omega)
  have b2' := df_b hd he (x := g) (by omega)
  obtain ⟨f1, f2, f3⟩ := fu_1 x4 (df d e l) (df d e g)
  have hI : In x4 d e l g 0 0 (fu x4 (df d e l) (df d e g)) := by
    refine ⟨?_, f1, f2, fun j hj => absurd hj (Nat.not_lt_zero _), fun j hj => absurd hj (Nat.not_lt_zero _)⟩
    rcases f3 with f3 | f3
    · exact ⟨l, Nat.le_refl _, hlg, f3⟩
    · exact ⟨g, hlg, Nat.le_refl _, f3⟩
  obtain ⟨R, r1, i1, i2, i3, i4, i5⟩ := pA1 hS hb hp hq hs hd he h h' hlg hg FU 0 _ (by omega) (by unfold FU; omega) hI
  refine ⟨R, ?_, i1, far2 (C := fun x => isC d x ∨ isC e x) (fun x hx => df_2 hd he hx) i2 i3 (fun x hx h1 h2 => ?_)⟩
  · unfold fX8_partAbove
    rw [u_R0_5 hS, bs, u_a159 hS hs, bs, e1, u_R0_6 hS, bs, u_a160 hS hs, bs, e2, dAt hS hb hp hq hs hd he h h' (by omega), b2s, dAt hS hb hp hq hs hd he h h' (by omega), b2s, fur (by omega) (by omega) (by omega) (by omega), b2s]
    exact r1
  · have n1 := hd.2.1
    have n2 := he.2.1
    rcases hx with ⟨k, hk, rfl⟩ | ⟨k, hk, rfl⟩
    · exact i4 k (by omega) hk h1 h2
    · exact i5 k (by omega) hk h1 h2
theorem rA1 {j k : Nat} {x1 x2 : Int32} {x4' : Int64} {rc : Nat → Int32 → Int32 → Int32 → Int64 → Int32 → Mem → Option (Int64 × Mem)} (hS : ST σ) (hs : s < 4) (hj : j < 80) (hk : k < 80) (hd : okP d) (he : okP e) (h : HM σ j d) (h' : HM σ k e) (hg : g ≤ 20000) (e2 : gI σ 329 s = nI g) (n : Nat) : ∀ x R, l ≤ x → x ≤ g → g < x + n → Far x4 (df d e) l x R → ∃ R', fX9_above_b142 rc n 304 x1 x2 x4 x4' (nI s) (nI j) (nI k) (lZ R) (nI (x + 1)) σ = fX9_above_b206 rc 304 x1 x2 x4 x4' (nI s) (lZ R') σ ∧ Far x4 (df d e) l g R' := by
  induction n with
  | zero => intro x R hl hx hn; omega
  | succ n ih =>
    intro x R hl hx hn hF
    have r12 : -(2 ^ 62) < R ∧ R < 2 ^ 62 := by
      obtain ⟨⟨y, y1, y2, y3⟩, -⟩ := hF
      have := df_b hd he (x := y) (by omega)
      omega
    have hd0 : fX9_above_b142 rc (n + 1) 304 x1 x2 x4 x4' (nI s) (nI j) (nI k) (lZ R) (nI (x + 1)) σ = ((fR σ 9 41 (some 304)).bind fun t1 => (aI σ 11 t1 (nI s)).bind fun t2 => if t2 < nI (x + 1) then fX9_above_b206 rc 304 x1 x2 x4 x4' (nI s) (lZ R) σ else (kT σ 9 (some 304)).bind fun k4 => b2 (fX9_partCost k4 (nI j) (nI (x + 1)) σ) fun t5 m6 => (kT m6 9 (some 304)).bind fun k7 => b2 (fX9_partCost k7 (nI k) (nI (x + 1)) m6) fun t8 m9 => bd (t5 - t8) fun t10 => if x4 = 0 then if lZ R ≤ t10 then fX9_above_b200 rc (fX9_above_b142 rc n) 304 x1 x2 x4 x4' (nI s) (nI j) (nI k) (lZ R) (nI (x + 1)) m9 else fX9_above_b196 rc (fX9_above_b142 rc n) 304 x1 x2 x4 x4' (nI s) (nI j) (nI k) (nI (x + 1)) t10 m9 else if t10 ≤ lZ R then fX9_above_b200 rc (fX9_above_b142 rc n) 304 x1 x2 x4 x4' (nI s) (nI j) (nI k) (lZ R) (nI (x + 1)) m9 else fX9_above_b196 rc (fX9_above_b142 rc n) 304 x1 x2 x4 x4' (nI s) (nI j) (nI k) (nI (x + 1)) t10 m9) := rfl
    rw [hd0, u_R304_41 hS, bs, u_a329 hS hs, bs, e2]
    by_cases c : x < g
    · have rr := df_b hd he (x := x + 1) (by omega)
      rw [if_neg (nI_nlt (by omega) (by omega)), u_kT304 hS, bs, pC hS hj hd h (by omega), b2s, u_kT304 hS, bs, pC hS hk he h' (by omega), b2s, bd_, lN_subZ]
      have e10 : ((pco d (x + 1) : Int) - (pco e (x + 1) : Int)) = df d e (x + 1) := rfl
      rw [e10]
      have go (R' : Int) (hR : Far x4 (df d e) l (x + 1) R') : ∃ R'', fX9_above_b200 rc (fX9_above_b142 rc n) 304 x1 x2 x4 x4' (nI s) (nI j) (nI k) (lZ R') (nI (x + 1)) σ = fX9_above_b206 rc 304 x1 x2 x4 x4' (nI s) (lZ R'') σ ∧ Far x4 (df d e) l g R'' := by
        unfold fX9_above_b200
        rw [bd_, nI_1]
        exact ih (x + 1) R' (by omega) (by omega) (by omega) hR
      have keep (hb : bt' x4 (df d e (x + 1)) R) : Far x4 (df d e) l (x + 1) R := by
        obtain ⟨⟨y, y1, y2, y3⟩, h4⟩ := hF
        refine ⟨⟨y, y1, by omega, y3⟩, fun z z1 z2 => ?_⟩
        by_cases ee : z = x + 1
        · subst ee; exact hb
        · exact h4 z z1 (by omega)
      have take (hb : bt' x4 R (df d e (x + 1))) : Far x4 (df d e) l (x + 1) (df d e (x + 1)) := by
        refine ⟨⟨x + 1, by omega, Nat.le_refl _, rfl⟩, fun z z1 z2 => ?_⟩
        by_cases ee : z = x + 1
        · subst ee; exact bt_rf _
        · exact bt_tr (hF.2 z z1 (by omega)) hb
      by_cases q0 : x4 = 0
      · rw [if_pos q0]
        by_cases q1 : R ≤ df d e (x + 1)
        · rw [if_pos ((lZ_le r12.1 r12.2 (by omega) (by omega)).mpr q1)]
          exact go R (keep (by unfold bt'; rw [if_pos q0]; exact q1))
        · rw [if_neg (fun z => q1 ((lZ_le r12.1 r12.2 (by omega) (by omega)).mp z))]
          exact go _ (take (by unfold bt'; rw [if_pos q0]; omega))
      · rw [if_neg q0]
        by_cases q1 : df d e (x + 1) ≤ R
        · rw [if_pos ((lZ_le (by omega) (by omega) r12.1 r12.2).mpr q1)]
          exact go R (keep (by unfold bt'; rw [if_neg q0]; exact q1))
        · rw [if_neg (fun z => q1 ((lZ_le (by omega) (by omega) r12.1 r12.2).mp z))]
          exact go _ (take (by unfold bt'; rw [if_neg q0]; omega))
    · have : x = g := by omega
      subst this
      rw [if_pos (nI_lt (by omega) (by omega))]
      exact ⟨R, rfl, hF⟩
end
def abR (o : Option Int) (τ : Mem) : Option (Int64 × Mem) := match o with
  | none => some (0, sI τ 304 0 1)
  | some z => some (lZ z, sI τ 304 0 0)
theorem ab1 {σ : Mem} {b p q : Nat} {w : WD} {lo hi : Nat → Nat} {x4 : Int32} (hS : ST σ) (hw : okW w) (h8 : H8 σ b w) (hp : p < w.1) (hq : q < w.1) (hlh : ∀ i, i < 4 → lo i ≤ hi i ∧ hi i ≤ 20000) (hs8 : ∀ i, i < 4 → gI σ 159 i = nI (lo i) ∧ gI σ 160 i = nI (hi i)) (n : Nat) : ∀ k Z, k ≤ 4 → 4 < k + n → ∃ o : Option Int, fX8_above_b56 n 0 x4 (some (Pl b p)) (some (Pl b q)) (lZ Z) (nI k) σ = some (o.map lZ, σ) ∧ ∀ τ, ST τ → H9 τ w → (∀ i, i < 4 → gI τ 328 i = nI (lo i) ∧ gI τ 329 i = nI (hi i)) → fX9_above_b41 n 304 (nI p) (nI q) x4 (lZ Z) (nI k) τ = abR o τ := by
  have hP := hw.1
  obtain ⟨hb, a2, a3, -, -⟩ := h8
  have lp := hw.2.1 p hp
  have lq := hw.2.1 q hq
  induction n with
  | zero => intro k Z hk hn; omega
  | succ n ih =>
    intro k Z hk hn
    have hd8 : fX8_above_b56 (n + 1) 0 x4 (some (Pl b p)) (some (Pl b q)) (lZ Z) (nI k) σ = (if 4 ≤ nI k then fX8_above_b130 (lZ Z) σ else (fR σ 8 6 (some 0)).bind fun t2 => (aI σ 11 t2 (nI k)).bind fun t3 => if t3 ≤ 0 then fX8_above_b124 (fX8_above_b56 n) 0 x4 (some (Pl b p)) (some (Pl b q)) (lZ Z) (nI k) σ else (kT σ 2 (some (Pl b p))).bind fun k5 => b2 (fX2_partFor k5 (nI k) σ) fun t6 m7 => (kT m7 2 (some (Pl b q))).bind fun k8 => b2 (fX2_partFor k8 (nI k) m7) fun t9 m10 => if t6 = none then fX8_above_b100 (fX8_above_b56 n) m10 else if t9 = none then fX8_above_b100 (fX8_above_b56 n) m10 else (kT m10 8 (some 0)).bind fun k13 => b2 (fX8_partAbove k13 t6 t9 (nI k) x4 m10) fun t14 m15 => bd (lZ Z + t14) fun t16 => fX8_above_b124 (fX8_above_b56 n) 0 x4 (some (Pl b p)) (some (Pl b q)) t16 (nI k) m15) := rfl
    have hd9 (τ : Mem) : fX9_above_b41 (n + 1) 304 (nI p) (nI q) x4 (lZ Z) (nI k) τ = (if 4 ≤ nI k then fX9_above_b219 304 (lZ Z) τ else (fR τ 9 41 (some 304)).bind fun t2 => (aI τ 11 t2 (nI k)).bind fun t3 => if t3 = 0 then fX9_above_b213 (fX9_above_b41 n) 304 (nI p) (nI q) x4 (lZ Z) (nI k) τ else bd ((4 * nI p) + nI k) fun t5 => bd ((4 * nI q) + nI k) fun t6 => (fR τ 9 16 (some 304)).bind fun t7 => (aI τ 13 t7 t5).bind fun t8 => if t8 = 0 then fX9_above_b96 (fX9_above_b41 n) 304 τ else (fR τ 9 16 (some 304)).bind fun t10 => (aI τ 13 t10 t6).bind fun t11 => if t11 = 0 then fX9_above_b96 (fX9_above_b41 n) 304 τ else (fR τ 9 40 (some 304)).bind fun t13 => (aI τ 11 t13 (nI k)).bind fun t14 => (kT τ 9 (some 304)).bind fun k15 => b2 (fX9_partCost k15 t5 t14 τ) fun t16 m17 => (fR m17 9 40 (some 304)).bind fun t18 => (aI m17 11 t18 (nI k)).bind fun t19 => (kT m17 9 (some 304)).bind fun k20 => b2 (fX9_partCost k20 t6 t19 m17) fun t21 m22 => bd (t16 - t21) fun t23 => (fR m22 9 40 (some 304)).bind fun t24 => (aI m22 11 t24 (nI k)).bind fun t25 => bd (t25 + 1) fun t26 => fX9_above_b142 (fX9_above_b41 n) FU 304 (nI p) (nI q) x4 (lZ Z) (nI k) t5 t6 t23 t26 m22) := rfl
    have rf (τ : Mem) (k1 : ST τ) : fX9_above_b96 (fX9_above_b41 n) 304 τ = abR none τ := by
      unfold fX9_above_b96 fX9_refuse
      rw [u_kT304 k1, bs, u_pI304 k1, bs, b2s]
      rfl
    by_cases c : k < 4
    · obtain ⟨l1, l2⟩ := hlh k c
      obtain ⟨s1, s2⟩ := hs8 k c
      rw [hd8, if_neg (by rw [w_4]; exact nI_ge c (by decide)), u_R0_6 hS, bs, u_a160 hS c, bs, s2]
      by_cases c0 : hi k = 0
      · obtain ⟨o, o1, o2⟩ := ih (k + 1) Z (by omega) (by omega)
        refine ⟨o, ?_, fun τ k1 k2 k3 => ?_⟩
        · rw [if_pos (by rw [c0]; decide)]
          unfold fX8_above_b124
          rw [bd_, nI_1]
          exact o1
        · rw [hd9, if_neg (by rw [w_4]; exact nI_ge c (by decide)), u_R304_41 k1, bs, u_a329 k1 c, bs, (k3 k c).2, if_pos (by rw [c0]; rfl)]
          unfold fX9_above_b213
          rw [bd_, nI_1]
          exact o2 τ k1 k2 k3
      · rw [if_neg (by rw [w_0]; exact nI_ge (by omega) (by omega)), v_kTP hS hb (by omega), bs, pFor hS hb (by omega) c lp (a3 p hp), b2s, v_kTP hS hb (by omega), bs, pFor hS hb (by omega) c lq (a3 q hq), b2s]
        have pre9 (τ : Mem) (k1 : ST τ) (k2 : H9 τ w) (k3 : ∀ i, i < 4 → gI τ 328 i = nI (lo i) ∧ gI τ 329 i = nI (hi i)) := by
          have := hd9 τ
          rw [if_neg (by rw [w_4]; exact nI_ge c (by decide)), u_R304_41 k1, bs, u_a329 k1 c, bs, (k3 k c).2, if_neg (nI_ne0 (by omega) (by omega)), w_4, pk_mul, nI_add, bd_, pk_mul, nI_add, bd_, u_R304_16 k1, bs, u_a311 k1 (by omega), bs, ((k2.2.1 p hp).2.2.2.2 k c).1] at this
          exact this
        by_cases t1 : (w.2.1 p).2.2.2.2.1.testBit k = true
        · by_cases t2 : (w.2.1 q).2.2.2.2.1.testBit k = true
          · have od := lp.2.2.2.2.2.2 k c t1
            have oe := lq.2.2.2.2.2.2 k c t2
            obtain ⟨R, r1, r2⟩ := pA (x4 := x4) hS hb (by omega) (by omega) c od oe ((a3 p hp).2.2.2.2.2 k c t1) ((a3 q hq).2.2.2.2.2 k c t2) l1 l2 s1 s2
            obtain ⟨o, o1, o2⟩ := ih (k + 1) (Z + R) (by omega) (by omega)
            refine ⟨o, ?_, fun τ k1 k2 k3 => ?_⟩
            · rw [if_pos t1, if_neg (by simp), if_pos t2, if_neg (by simp), u_kT0 hS, bs, r1, b2s, bd_, lZ_add]
              unfold fX8_above_b124
              rw [bd_, nI_1]
              exact o1
            · obtain ⟨-, g1⟩ := (k2.2.1 p hp).2.2.2.2 k c
              obtain ⟨g2, g3⟩ := (k2.2.1 q hq).2.2.2.2 k c
              have F0 : Far x4 (df ((w.2.1 p).2.2.2.2.2 k) ((w.2.1 q).2.2.2.2.2 k)) (lo k) (lo k) (df ((w.2.1 p).2.2.2.2.2 k) ((w.2.1 q).2.2.2.2.2 k) (lo k)) := ⟨⟨lo k, Nat.le_refl _, Nat.le_refl _, rfl⟩, fun x x1 x2 => by
                have : x = lo k := by omega
                subst this
                exact bt_rf _⟩
              obtain ⟨R', e1, e2⟩ := rA1 (x1 := nI p) (x2 := nI q) (x4' := lZ Z) (rc := fX9_above_b41 n) (j := 4 * p + k) (k := 4 * q + k) k1 c (by omega) (by omega) od oe (g1 t1) (g3 t2) l2 (k3 k c).2 FU (lo k) _ (Nat.le_refl _) l1 (by unfold FU; omega) F0
              have := Far_u r2 e2
              subst this
              have e23 : lN (pco ((w.2.1 p).2.2.2.2.2 k) (lo k)) - lN (pco ((w.2.1 q).2.2.2.2.2 k) (lo k)) = lZ (df ((w.2.1 p).2.2.2.2.2 k) ((w.2.1 q).2.2.2.2.2 k) (lo k)) := lN_subZ _ _
              rw [pre9 τ k1 k2 k3, if_pos t1, if_neg (by decide), bs, u_a311 k1 (by omega), bs, g2, if_pos t2, if_neg (by decide), u_R304_40 k1, bs, u_a328 k1 c, bs, (k3 k c).1, u_kT304 k1, bs, pC k1 (by omega) od (g1 t1) (by omega), b2s, u_R304_40 k1, bs, u_a328 k1 c, bs, (k3 k c).1, u_kT304 k1, bs, pC k1 (by omega) oe (g3 t2) (by omega), b2s, bd_, u_R304_40 k1, bs, u_a328 k1 c, bs, (k3 k c).1, bd_, nI_1, e23, e1]
              unfold fX9_above_b206
              rw [bd_, lZ_add]
              unfold fX9_above_b213
              rw [bd_, nI_1]
              exact o2 τ k1 k2 k3
          · refine ⟨none, ?_, fun τ k1 k2 k3 => ?_⟩
            · rw [if_pos t1, if_neg (by simp), if_neg t2, if_pos rfl]
              rfl
            · rw [pre9 τ k1 k2 k3, if_pos t1, if_neg (by decide), bs, u_a311 k1 (by omega), bs, ((k2.2.1 q hq).2.2.2.2 k c).1, if_neg t2, if_pos rfl, rf τ k1]
        · refine ⟨none, ?_, fun τ k1 k2 k3 => ?_⟩
          · rw [if_neg t1, if_pos rfl]
            rfl
          · rw [pre9 τ k1 k2 k3, if_neg t1, if_pos rfl, rf τ k1]
    · have : k = 4 := by omega
      subst this
      refine ⟨some Z, rfl, fun τ k1 k2 k3 => ?_⟩
      rw [hd9, if_pos (by decide)]
      unfold fX9_above_b219
      rw [u_pI304 k1, bs]
      rfl
theorem fee_d {a b : Nat} (ha : a ≤ 999999) (hb : b ≤ 999999) : (nI a - nI b).toInt64 = lN a - lN b := by
  rw [lN_subZ]
  apply Int64.toInt_inj.mp
  rw [lZ_toInt (by omega) (by omega), Int32.toInt_toInt64, pk_sub_toInt (by omega) (by omega)]
theorem op_above (a b c : Int32) : OpXL Rel (fX8_above 0 a b c) (fX9_above 304 a b c) := by
  intro σ h
  have hS := h.1
  obtain ⟨B, w, hw, h8, h9, hB⟩ := wd_of h
  have hP := hw.1
  have hsp := h.2.2.2.2.2.1
  have rf (τ : Mem) (k : ST τ) : fX9_above_b16 304 τ = some (0, sI τ 304 0 1) := by
    unfold fX9_above_b16 fX9_refuse
    rw [u_kT304 k, bs, u_pI304 k, bs, b2s]
    rfl
  by_cases ha : ∃ p, p < w.1 ∧ a = nI p
  · obtain ⟨p, hp, rfl⟩ := ha
    by_cases hb : ∃ p, p < w.1 ∧ b = nI p
    · obtain ⟨q, hq, rfl⟩ := hb
      have fp := (hw.2.1 p hp).1
      have fq := (hw.2.1 q hq).1
      have sp (i : Nat) (hi : i < 4) : (gI σ 328 i).toNatClampNeg ≤ (gI σ 329 i).toNatClampNeg ∧ (gI σ 329 i).toNatClampNeg ≤ 20000 ∧ gI σ 159 i = nI (gI σ 328 i).toNatClampNeg ∧ gI σ 160 i = nI (gI σ 329 i).toNatClampNeg ∧ gI σ 328 i = nI (gI σ 328 i).toNatClampNeg ∧ gI σ 329 i = nI (gI σ 329 i).toNatClampNeg := by
        obtain ⟨q1, q2, x, y, x1, y1, e1, e2⟩ := hsp i hi
        rw [← q1, ← q2, e1, e2, nI_clamp (by omega), nI_clamp (by omega)]
        exact ⟨x1, y1, rfl, rfl, rfl, rfl⟩
      obtain ⟨o, o1, o2⟩ := ab1 (x4 := c) (lo := fun i => (gI σ 328 i).toNatClampNeg) (hi := fun i => (gI σ 329 i).toNatClampNeg) hS hw h8 hp hq (fun i hi => ⟨(sp i hi).1, (sp i hi).2.1⟩) (fun i hi => ⟨(sp i hi).2.2.1, (sp i hi).2.2.2.1⟩) FU 0 (((w.2.1 p).1 : Int) - ((w.2.1 q).1 : Int)) (by omega) (by unfold FU; omega)
      have x8 : fX8_above 0 (nI p) (nI q) c σ = some (o.map lZ, σ) := by
        unfold fX8_above
        rw [u_R0_8 hS, bs, hB, v_kTB hS h8.1, bs, atP hS h8.1 hP h8.2.1 hp, b2s, u_R0_8 hS, bs, hB, v_kTB hS h8.1, bs, atP hS h8.1 hP h8.2.1 hq, b2s, if_neg (by simp), if_neg (by simp), v_fIP hS h8.1 (by omega), bs, v_fIP hS h8.1 (by omega), bs, (h8.2.2.1 p hp).1, (h8.2.2.1 q hq).1, nI_l (by omega), nI_l (by omega), bd_, lN_subZ]
        exact o1
      have x9 (τ : Mem) (k1 : ST τ) (k2 : H9 τ w) (k3 : ∀ i, i < 4 → gI τ 328 i = nI (gI σ 328 i).toNatClampNeg ∧ gI τ 329 i = nI (gI σ 329 i).toNatClampNeg) : fX9_above 304 (nI p) (nI q) c τ = abR o τ := by
        unfold fX9_above
        rw [u_kT304 k1, bs, isP1 k1 hP k2.1 hp, b2s, if_neg (by decide), u_kT304 k1, bs, isP1 k1 hP k2.1 hq, b2s, if_neg (by decide), u_R304_12 k1, bs, u_a307 k1 (by omega), bs, bs, u_a307 k1 (by omega), bs, (k2.2.1 p hp).1, (k2.2.1 q hq).1, fee_d fp fq, bd_, lN_subZ]
        exact o2 τ k1 k2 k3
      cases o with
      | none => exact XL_no h (b := 0) x8 (x9 σ hS h9 (fun i hi => (sp i hi).2.2.2.2))
      | some z => exact XL_yes h (v := lZ z) x8 (x9 _ (q_sJ hS _ _ _) (H9_fr (fun c hc => gI_sJ) gI_sJ rfl rfl h9) (fun i hi => (sp i hi).2.2.2.2))
    · refine XL_no h (b := 0) ?_ ?_
      · unfold fX8_above
        rw [u_R0_8 hS, bs, hB, v_kTB hS h8.1, bs, atP hS h8.1 hP h8.2.1 hp, b2s, u_R0_8 hS, bs, hB, v_kTB hS h8.1, bs, atN hS h8.1 hP h8.2.1 hb, b2s, if_neg (by simp), if_pos rfl]
        rfl
      · unfold fX9_above
        rw [u_kT304 hS, bs, isP1 hS hP h9.1 hp, b2s, if_neg (by decide), u_kT304 hS, bs, isP0 hS hP h9.1 hb, b2s, if_pos rfl, rf σ hS]
  · refine XL_no h (b := 0) ?_ ?_
    · unfold fX8_above
      by_cases hb : ∃ p, p < w.1 ∧ b = nI p
      · obtain ⟨q, hq, rfl⟩ := hb
        rw [u_R0_8 hS, bs, hB, v_kTB hS h8.1, bs, atN hS h8.1 hP h8.2.1 ha, b2s, u_R0_8 hS, bs, hB, v_kTB hS h8.1, bs, atP hS h8.1 hP h8.2.1 hq, b2s, if_pos rfl]
        rfl
      · rw [u_R0_8 hS, bs, hB, v_kTB hS h8.1, bs, atN hS h8.1 hP h8.2.1 ha, b2s, u_R0_8 hS, bs, hB, v_kTB hS h8.1, bs, atN hS h8.1 hP h8.2.1 hb, b2s, if_pos rfl]
        rfl
    · unfold fX9_above
      rw [u_kT304 hS, bs, isP0 hS hP h9.1 ha, b2s, if_pos rfl, rf σ hS]
