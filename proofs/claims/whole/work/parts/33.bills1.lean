/-! bills: one table for both -/
def ct (o : Option Nat) : Int64 := match o with
  | none => -1
  | some v => lN v
def dt (o : Option Nat) : Int64 := match o with
  | none => lN 1000000000000000
  | some v => lN v
theorem cst_ct (o : Option Nat) : cst o = ct (o.map (fun v => v / 1000000000000000000000000)) := by cases o <;> rfl
def okg (g s : Nat) : Bool := decide ((nI g &&& nI s) = nI g) && !decide ((nI g &&& (nI s &&& (-nI s))) = 0)
abbrev TB : Type := Nat → Option Nat × Nat
def ad2 (r : Option Nat × Nat) (x y : Option Nat) (g : Nat) : Option Nat × Nat := match x, y with
  | some a, some b => (match r.1 with
    | none => (some (a + b), g)
    | some z => if a + b < z then (some (a + b), g) else r)
  | _, _ => r
def fo (A : Nat → Option Nat) (T : TB) (s : Nat) : Nat → Option Nat × Nat
  | 0 => (none, 0)
  | k + 1 => if okg (k + 1) s then ad2 (fo A T s k) (A (k + 1)) (T (s ^^^ (k + 1))).1 (k + 1) else fo A T s k
set_option maxRecDepth 100000 in
theorem okg_x : ∀ s, s < 16 → ∀ g, g < 16 → okg g s = true → 1 ≤ g ∧ g ≤ s ∧ s ^^^ g < s ∧ nI s &&& (nI g ^^^ (-1)) = nI (s ^^^ g) := by decide +kernel
set_option maxRecDepth 100000 in
theorem okg_m : ∀ s, s < 16 → ∀ g, g < 16 → 1 ≤ g → (okg g s = true ↔ ((nI g &&& (nI s ^^^ (-1))) = 0 ∧ ¬ ((nI g &&& nI s) &&& (-nI s)) = 0)) := by decide +kernel
set_option maxRecDepth 100000 in
theorem nx16 : ∀ s, s < 16 → ∀ g, g < 16 → nI s ^^^ nI g = nI (s ^^^ g) := by decide +kernel
theorem fo_c {A : Nat → Option Nat} {T T' : TB} {s : Nat} (hs : s < 16) (h : ∀ t, t < s → T t = T' t) : ∀ k, k < 16 → fo A T s k = fo A T' s k := by
  intro k
  induction k with
  | zero => intro _; rfl
  | succ k ih =>
    intro hk
    show (if okg (k + 1) s then ad2 (fo A T s k) (A (k + 1)) (T (s ^^^ (k + 1))).1 (k + 1) else fo A T s k) = (if okg (k + 1) s then ad2 (fo A T' s k) (A (k + 1)) (T' (s ^^^ (k + 1))).1 (k + 1) else fo A T' s k)
    rw [ih (by omega)]
    by_cases c : okg (k + 1) s = true
    · rw [if_pos c, if_pos c, h _ (okg_x s hs (k + 1) hk c).2.2.1]
    · rw [if_neg c, if_neg c]
def okT (A : Nat → Option Nat) (T : TB) : Prop := (T 0).1 = some 0 ∧ ∀ s, 1 ≤ s → s < 16 → T s = fo A T s s
theorem tb_ex (A : Nat → Option Nat) : ∃ T, okT A T := by
  have : ∀ n, n < 16 → ∃ T : TB, (T 0).1 = some 0 ∧ ∀ s, 1 ≤ s → s ≤ n → T s = fo A T s s := by
    intro n
    induction n with
    | zero => intro _; exact ⟨fun _ => (some 0, 0), rfl, fun s h1 h2 => by omega⟩
    | succ n ih =>
      intro hn
      obtain ⟨T, h1, h2⟩ := ih (by omega)
      refine ⟨fun s => if s = n + 1 then fo A T (n + 1) (n + 1) else T s, h1, fun s h3 h4 => ?_⟩
      by_cases e : s = n + 1
      · subst e
        show (if n + 1 = n + 1 then fo A T (n + 1) (n + 1) else T (n + 1)) = _
        rw [if_pos rfl]
        exact fo_c hn (fun t ht => (if_neg (by omega)).symm) _ hn
      · show (if s = n + 1 then fo A T (n + 1) (n + 1) else T s) = _
        rw [if_neg e, h2 s h3 (by omega)]
        exact fo_c (by omega) (fun t ht => (if_neg (by omega)).symm) _ (by omega)
  obtain ⟨T, h1, h2⟩ := this 15 (by decide)
  exact ⟨T, h1, fun s h3 h4 => h2 s h3 (by omega)⟩
def okA (A : Nat → Option Nat) : Prop := ∀ g x, A g = some x → x ≤ 100000000000
theorem fo_f {A : Nat → Option Nat} {T : TB} {s : Nat} (hA : okA A) (hs : s < 16) (hT : ∀ t y, t < s → (T t).1 = some y → y ≤ t * 100000000000) : ∀ k z, k < 16 → (fo A T s k).1 = some z → z ≤ s * 100000000000 ∧ okg (fo A T s k).2 s = true ∧ 1 ≤ (fo A T s k).2 ∧ (fo A T s k).2 ≤ k ∧ ∃ y, (T (s ^^^ (fo A T s k).2)).1 = some y := by
  intro k
  induction k with
  | zero => intro z _ h; cases h
  | succ k ih =>
    intro z hk h
    have e : fo A T s (k + 1) = if okg (k + 1) s then ad2 (fo A T s k) (A (k + 1)) (T (s ^^^ (k + 1))).1 (k + 1) else fo A T s k := rfl
    have old (h : (fo A T s k).1 = some z) : z ≤ s * 100000000000 ∧ okg (fo A T s k).2 s = true ∧ 1 ≤ (fo A T s k).2 ∧ (fo A T s k).2 ≤ k + 1 ∧ ∃ y, (T (s ^^^ (fo A T s k).2)).1 = some y := by
      obtain ⟨a1, a2, a3, a4, a5⟩ := ih z (by omega) h
      exact ⟨a1, a2, a3, by omega, a5⟩
    rw [e] at h ⊢
    by_cases c : okg (k + 1) s = true
    · rw [if_pos c] at h ⊢
      obtain ⟨o1, o2, o3, -⟩ := okg_x s hs (k + 1) hk c
      cases ea : A (k + 1) with
      | none => rw [ea] at h; exact old h
      | some x =>
        cases eb : (T (s ^^^ (k + 1))).1 with
        | none =>
          rw [ea, eb] at h
          exact old h
        | some y =>
          have b1 := hA _ _ ea
          have b2 := hT _ _ o3 eb
          have b3 : ((s ^^^ (k + 1)) + 1) * 100000000000 ≤ s * 100000000000 := Nat.mul_le_mul_right _ o3
          rw [Nat.succ_mul] at b3
          rw [ea, eb] at h
          cases er : (fo A T s k).1 with
          | none =>
            have e2 : ad2 (fo A T s k) (some x) (some y) (k + 1) = (some (x + y), k + 1) := by unfold ad2; rw [er]
            rw [e2] at h ⊢
            cases h
            exact ⟨by omega, c, by omega, by omega, y, eb⟩
          | some u =>
            have e2 : ad2 (fo A T s k) (some x) (some y) (k + 1) = if x + y < u then (some (x + y), k + 1) else fo A T s k := by unfold ad2; rw [er]
            rw [e2] at h ⊢
            by_cases c2 : x + y < u
            · rw [if_pos c2] at h ⊢
              cases h
              exact ⟨by omega, c, by omega, by omega, y, eb⟩
            · rw [if_neg c2] at h ⊢
              exact old h
    · rw [if_neg c] at h ⊢
      exact old h
theorem T_f {A : Nat → Option Nat} {T : TB} (hA : okA A) (hT : okT A T) : ∀ s, s < 16 → ∀ z, (T s).1 = some z → z ≤ s * 100000000000 ∧ (1 ≤ s → okg (T s).2 s = true ∧ 1 ≤ (T s).2 ∧ (T s).2 ≤ s ∧ ∃ y, (T (s ^^^ (T s).2)).1 = some y) := by
  intro s
  induction s using Nat.strongRecOn with
  | _ s ih =>
    intro hs z hz
    by_cases c : s = 0
    · subst c
      rw [hT.1] at hz
      cases hz
      exact ⟨by omega, fun h => by omega⟩
    · rw [hT.2 s (by omega) hs] at hz
      obtain ⟨a1, a2, a3, a4, a5⟩ := fo_f hA hs (fun t y ht hy => (ih t ht (by omega) y hy).1) s z hs hz
      rw [← hT.2 s (by omega) hs] at a2 a3 a4 a5
      exact ⟨a1, fun _ => ⟨a2, a3, a4, a5⟩⟩
theorem T_b {A : Nat → Option Nat} {T : TB} (hA : okA A) (hT : okT A T) {s : Nat} (hs : s < 16) {z : Nat} (hz : (T s).1 = some z) : z ≤ 1500000000000 := by
  have := (T_f hA hT s hs z hz).1
  have h2 : s * 100000000000 ≤ 15 * 100000000000 := Nat.mul_le_mul_right _ (by omega)
  omega
theorem fo_b {A : Nat → Option Nat} {T : TB} (hA : okA A) (hT : okT A T) {s k : Nat} (hs : s < 16) (hk : k < 16) {z : Nat} (hz : (fo A T s k).1 = some z) : z ≤ 1500000000000 := by
  have := (fo_f hA hs (fun t y ht hy => (T_f hA hT t (by omega) y hy).1) k z hk hz).1
  have h2 : s * 100000000000 ≤ 15 * 100000000000 := Nat.mul_le_mul_right _ (by omega)
  omega
/-! the class's table -/
theorem ct_pl {σ : Mem} {x y : Option Nat} (hx : ∀ v, x = some v → v < 2 ^ 61) (hy : ∀ v, y = some v → v < 2 ^ 61) : fX8_plus (ct x) (ct y) σ = some (ct (match x, y with | some a, some b => some (a + b) | _, _ => none), σ) := by
  cases x with
  | none => exact plusL
  | some a =>
    cases y with
    | none => exact plusR
    | some b =>
      have := hx a rfl
      have := hy b rfl
      exact plus_ (by omega) (by omega)
def chw (a : Nat) (o : Option Nat) : Int32 := match o with
  | none => 1
  | some z => if a < z then 1 else 0
theorem ct_ch {σ : Mem} {a : Nat} {o : Option Nat} (ha : a < 2 ^ 62) (ho : ∀ v, o = some v → v < 2 ^ 62) : fX8_isCheaper (lN a) (ct o) σ = some (chw a o, σ) := by
  unfold fX8_isCheaper
  rw [if_neg (by rw [lm1_ne (by omega)]; exact id)]
  cases o with
  | none => rw [show ct none = -1 from rfl, if_pos rfl]; rfl
  | some y =>
    have hy := ho y rfl
    rw [show ct (some y) = lN y from rfl, if_neg (by rw [lm1_ne (by omega)]; exact id)]
    simp only [pk_lLE (show y < 2 ^ 63 by omega) (show a < 2 ^ 63 by omega)]
    by_cases c : y ≤ a
    · rw [if_pos c, show chw a (some y) = if a < y then 1 else 0 from rfl, if_neg (by omega)]; rfl
    · rw [if_neg c, show chw a (some y) = if a < y then 1 else 0 from rfl, if_pos (by omega)]; rfl
theorem ch_n {σ : Mem} {x : Int64} : fX8_isCheaper (-1) x σ = some (0, σ) := by
  unfold fX8_isCheaper
  rw [if_pos rfl]
  rfl
theorem fLe {A : Nat → Option Nat} {T : TB} {s : Nat} (hA : okA A) (hT : okT A T) (hs1 : 1 ≤ s) (hs : s < 16) (n : Nat) : ∀ k σ, ST σ → (∀ g, 1 ≤ g → g < 16 → gJ σ 155 g = ct (A g)) → (∀ t, t < s → gJ σ 156 t = ct (T t).1) → ((fo A T s k).1 ≠ none → gI σ 157 s = nI (fo A T s k).2) → k ≤ s → s < k + n → ∃ τ, fX1_fillLeast_b12 n 154 (nI s) (nI s &&& (-nI s)) (ct (fo A T s k).1) (nI (k + 1)) σ = some τ ∧ Fr (fun c j => (c = 156 ∧ j = s) ∨ (c = 157 ∧ j = s)) σ τ ∧ gJ τ 156 s = ct (T s).1 ∧ ((T s).1 ≠ none → gI τ 157 s = nI (T s).2) := by
  induction n with
  | zero => intro k σ _ _ _ _ _ hn; omega
  | succ n ih =>
    intro k σ hS h5 h6 h7 hk hn
    rw [fX1_fillLeast_b12]
    by_cases c : k < s
    · have e : fo A T s (k + 1) = if okg (k + 1) s then ad2 (fo A T s k) (A (k + 1)) (T (s ^^^ (k + 1))).1 (k + 1) else fo A T s k := rfl
      have keep (hf : fo A T s (k + 1) = fo A T s k) : ∃ τ, fX1_fillLeast_b82 (fX1_fillLeast_b12 n) 154 (nI s) (nI s &&& (-nI s)) (ct (fo A T s k).1) (nI (k + 1)) σ = some τ ∧ Fr (fun c j => (c = 156 ∧ j = s) ∨ (c = 157 ∧ j = s)) σ τ ∧ gJ τ 156 s = ct (T s).1 ∧ ((T s).1 ≠ none → gI τ 157 s = nI (T s).2) := by
        unfold fX1_fillLeast_b82
        rw [bd_, nI_1, ← hf]
        exact ih (k + 1) σ hS h5 h6 (by rw [hf]; exact h7) (by omega) (by omega)
      rw [if_neg (nI_nlt (by omega) (by omega)), w_15, if_neg (nI_nlt (by omega) (by omega))]
      by_cases q : okg (k + 1) s = true
      · obtain ⟨o1, o2, o3, o4⟩ := okg_x s hs (k + 1) (by omega) q
        have q' := q
        unfold okg at q'
        rw [Bool.and_eq_true, decide_eq_true_eq, Bool.not_eq_true', decide_eq_false_iff_not] at q'
        rw [if_pos q] at e
        rw [if_pos q'.1, if_neg q'.2, u_R154_0 hS, bs, u_a155 hS (by omega), bs, u_R154_1 hS, bs, nx16 s hs (k + 1) (by omega), u_a156 hS (by omega), bs, h5 _ (by omega) (by omega), h6 _ o3, ct_pl (fun v hv => by have := hA _ _ hv; omega) (fun v hv => by have := T_b hA hT (by omega) hv; omega), b2s]
        cases ea : A (k + 1) with
        | none =>
          rw [show ct (match (none : Option Nat), (T (s ^^^ (k + 1))).1 with | some a, some b => some (a + b) | _, _ => none) = -1 from rfl, ch_n, b2s, if_pos rfl]
          exact keep (by rw [e, ea]; rfl)
        | some x =>
          cases eb : (T (s ^^^ (k + 1))).1 with
          | none =>
            rw [show ct (match some x, (none : Option Nat) with | some a, some b => some (a + b) | _, _ => none) = -1 from rfl, ch_n, b2s, if_pos rfl]
            exact keep (by rw [e, ea, eb]; rfl)
          | some y =>
            have b1 := hA _ _ ea
            have b2' := T_b hA hT (by omega) eb
            rw [show ct (match some x, some y with | some a, some b => some (a + b) | _, _ => none) = lN (x + y) from rfl, ct_ch (by omega) (fun v hv => by have := fo_b hA hT hs (by omega) hv; omega), b2s]
            have take (hf : fo A T s (k + 1) = (some (x + y), k + 1)) : ∃ τ, ((fR σ 1 2 (some 154)).bind fun t14 => (wI σ 11 t14 (nI s) (nI (k + 1))).bind fun m15 => fX1_fillLeast_b82 (fX1_fillLeast_b12 n) 154 (nI s) (nI s &&& (-nI s)) (lN (x + y)) (nI (k + 1)) m15) = some τ ∧ Fr (fun c j => (c = 156 ∧ j = s) ∨ (c = 157 ∧ j = s)) σ τ ∧ gJ τ 156 s = ct (T s).1 ∧ ((T s).1 ≠ none → gI τ 157 s = nI (T s).2) := by
              have F : Fr (fun c j => (c = 156 ∧ j = s) ∨ (c = 157 ∧ j = s)) σ (sI σ 157 s (nI (k + 1))) := Fr.cI (Fr.refl hS) (by omega)
              obtain ⟨τ, t1, t2, t3⟩ := ih (k + 1) _ F.1 h5 h6 (by rw [hf]; intro _; exact gI_sI1) (by omega) (by omega)
              refine ⟨τ, ?_, Fr.tr F t2, t3⟩
              rw [u_R154_2 hS, bs, u_w157 hS (by omega), bs]
              unfold fX1_fillLeast_b82
              rw [bd_, nI_1]
              rw [hf] at t1
              exact t1
            cases er : (fo A T s k).1 with
            | none =>
              rw [show chw (x + y) none = 1 from rfl, if_neg (by decide)]
              exact take (by rw [e, ea, eb]; unfold ad2; rw [er])
            | some u =>
              rw [show chw (x + y) (some u) = if x + y < u then 1 else 0 from rfl]
              by_cases c2 : x + y < u
              · rw [if_pos c2, if_neg (by decide)]
                exact take (by rw [e, ea, eb]; unfold ad2; rw [er]; exact if_pos c2)
              · rw [if_neg c2, if_pos rfl, ← er]
                exact keep (by rw [e, ea, eb]; unfold ad2; rw [er]; exact if_neg c2)
      · rw [if_neg q] at e
        have q' := q
        unfold okg at q'
        rw [Bool.and_eq_true, decide_eq_true_eq, Bool.not_eq_true', decide_eq_false_iff_not] at q'
        by_cases q1 : (nI (k + 1) &&& nI s) = nI (k + 1)
        · rw [if_pos q1, if_pos (Decidable.byContradiction fun z => q' ⟨q1, z⟩)]
          exact keep e
        · rw [if_neg q1]
          exact keep e
    · have ek : k = s := by omega
      subst ek
      rw [if_pos (nI_lt (by omega) (by omega))]
      unfold fX1_fillLeast_b88
      rw [← hT.2 k hs1 hs] at h7 ⊢
      rw [u_R154_1 hS, bs, u_w156 hS (by omega), bs]
      exact ⟨_, rfl, Fr.cJ (Fr.refl hS) (by omega), gJ_sJ1, h7⟩
theorem fLe9 {A : Nat → Option Nat} {T : TB} {s : Nat} {rc : Nat → Int32 → Mem → Option (Int64 × Mem)} (hA : okA A) (hT : okT A T) (hs1 : 1 ≤ s) (hs : s < 16) (n : Nat) : ∀ k σ, ST σ → (∀ g, 1 ≤ g → g < 16 → gJ σ 324 g = dt (A g)) → (∀ t, t < s → gJ σ 325 t = dt (T t).1) → gJ σ 325 s = dt (fo A T s k).1 → ((fo A T s k).1 ≠ none → gI σ 326 s = nI (fo A T s k).2) → k ≤ s → s < k + n → ∃ τ, fX9_bills_b77 rc n 304 (nI s) (nI (k + 1)) σ = rc 304 (nI (s + 1)) τ ∧ Fr (fun c j => (c = 325 ∧ j = s) ∨ (c = 326 ∧ j = s)) σ τ ∧ gJ τ 325 s = dt (T s).1 ∧ ((T s).1 ≠ none → gI τ 326 s = nI (T s).2) := by
  have lit : (1000000000000000 : Int64) = lN 1000000000000000 := rfl
  induction n with
  | zero => intro k σ _ _ _ _ _ _ hn; omega
  | succ n ih =>
    intro k σ hS h5 h6 hq h7 hk hn
    rw [fX9_bills_b77]
    by_cases c : k < s
    · have e : fo A T s (k + 1) = if okg (k + 1) s then ad2 (fo A T s k) (A (k + 1)) (T (s ^^^ (k + 1))).1 (k + 1) else fo A T s k := rfl
      have keep (hf : fo A T s (k + 1) = fo A T s k) : ∃ τ, fX9_bills_b178 rc (fX9_bills_b77 rc n) 304 (nI s) (nI (k + 1)) σ = rc 304 (nI (s + 1)) τ ∧ Fr (fun c j => (c = 325 ∧ j = s) ∨ (c = 326 ∧ j = s)) σ τ ∧ gJ τ 325 s = dt (T s).1 ∧ ((T s).1 ≠ none → gI τ 326 s = nI (T s).2) := by
        unfold fX9_bills_b178
        rw [bd_, nI_1]
        exact ih (k + 1) σ hS h5 h6 (by rw [hf]; exact hq) (by rw [hf]; exact h7) (by omega) (by omega)
      rw [if_neg (nI_nlt (by omega) (by omega))]
      have km := okg_m s hs (k + 1) (by omega) (by omega)
      by_cases q : okg (k + 1) s = true
      · obtain ⟨o1, o2, o3, o4⟩ := okg_x s hs (k + 1) (by omega) q
        obtain ⟨m1, m2⟩ := km.mp q
        rw [if_pos q] at e
        rw [if_pos m1, if_neg m2, u_R304_36 hS, bs, u_a324 hS (by omega), bs, h5 _ (by omega) (by omega), lit]
        cases ea : A (k + 1) with
        | none =>
          rw [show dt none = lN 1000000000000000 from rfl, if_pos rfl]
          exact keep (by rw [e, ea]; rfl)
        | some x =>
          have b1 := hA _ _ ea
          rw [show dt (some x) = lN x from rfl, if_neg (by rw [pk_lEQ (by omega) (by decide)]; omega), u_R304_37 hS, bs, o4, u_a325 hS (by omega), bs, h6 _ o3]
          cases eb : (T (s ^^^ (k + 1))).1 with
          | none =>
            rw [show dt none = lN 1000000000000000 from rfl, if_pos rfl]
            exact keep (by rw [e, ea, eb]; rfl)
          | some y =>
            have b2' := T_b hA hT (by omega) eb
            rw [show dt (some y) = lN y from rfl, if_neg (by rw [pk_lEQ (by omega) (by decide)]; omega), bs, u_a324 hS (by omega), bs, h5 _ (by omega) (by omega), ea, show dt (some x) = lN x from rfl, bs, u_a325 hS (by omega), bs, h6 _ o3, eb, show dt (some y) = lN y from rfl, lN_add, bd_, bs, u_a325 hS (by omega), bs, hq]
            have take (hf : fo A T s (k + 1) = (some (x + y), k + 1)) : ∃ τ, ((some (some 325)).bind fun t18 => (wJ σ 12 t18 (nI s) (lN (x + y))).bind fun m19 => (fR m19 9 38 (some 304)).bind fun t20 => (wI m19 11 t20 (nI s) (nI (k + 1))).bind fun m21 => fX9_bills_b178 rc (fX9_bills_b77 rc n) 304 (nI s) (nI (k + 1)) m21) = rc 304 (nI (s + 1)) τ ∧ Fr (fun c j => (c = 325 ∧ j = s) ∨ (c = 326 ∧ j = s)) σ τ ∧ gJ τ 325 s = dt (T s).1 ∧ ((T s).1 ≠ none → gI τ 326 s = nI (T s).2) := by
              have F : Fr (fun c j => (c = 325 ∧ j = s) ∨ (c = 326 ∧ j = s)) σ (sI (sJ σ 325 s (lN (x + y))) 326 s (nI (k + 1))) := Fr.cI (Fr.cJ (Fr.refl hS) (by omega)) (by omega)
              obtain ⟨τ, t1, t2, t3⟩ := ih (k + 1) _ F.1 (fun g g1 g2 => by rw [rdJI, gJ_sJ2 (by omega)]; exact h5 g g1 g2) (fun t ht => by rw [rdJI, gJ_sJ2 (by omega)]; exact h6 t ht) (by rw [hf, rdJI, gJ_sJ1]; rfl) (by rw [hf]; intro _; exact gI_sI1) (by omega) (by omega)
              refine ⟨τ, ?_, Fr.tr F t2, t3⟩
              rw [bs, u_w325 hS (by omega), bs, u_R304_38 (q_sJ hS _ _ _), bs, u_w326 (q_sJ hS _ _ _) (by omega), bs]
              unfold fX9_bills_b178
              rw [bd_, nI_1]
              exact t1
            cases er : (fo A T s k).1 with
            | none =>
              rw [show dt none = lN 1000000000000000 from rfl, if_pos (by rw [pk_lLT (by omega) (by decide)]; omega)]
              exact take (by rw [e, ea, eb]; unfold ad2; rw [er])
            | some u =>
              have b3 := fo_b hA hT hs (by omega) er
              rw [show dt (some u) = lN u from rfl]
              by_cases c2 : x + y < u
              · rw [if_pos (by rw [pk_lLT (by omega) (by omega)]; exact c2)]
                exact take (by rw [e, ea, eb]; unfold ad2; rw [er]; exact if_pos c2)
              · rw [if_neg (by rw [pk_lLT (by omega) (by omega)]; exact c2)]
                exact keep (by rw [e, ea, eb]; unfold ad2; rw [er]; exact if_neg c2)
      · rw [if_neg q] at e
        by_cases q1 : (nI (k + 1) &&& (nI s ^^^ (-1))) = 0
        · rw [if_pos q1, if_pos (Decidable.byContradiction fun z => q (km.mpr ⟨q1, z⟩))]
          exact keep e
        · rw [if_neg q1]
          exact keep e
    · have ek : k = s := by omega
      subst ek
      rw [if_pos (nI_lt (by omega) (by omega))]
      unfold fX9_bills_b184
      rw [← hT.2 k hs1 hs] at h7 hq
      rw [bd_, nI_1]
      exact ⟨σ, rfl, Fr.refl hS, hq, h7⟩
