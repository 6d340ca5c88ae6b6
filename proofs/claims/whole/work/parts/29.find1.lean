/-! the reference's search: offers -/
def KO (τ : Mem) (a n s : Nat) (o : Option Nat) : Prop := match o with
  | none => gJ τ 319 s = lN 1000000000000000
  | some v => ∃ c f, c < 1000000000000 ∧ gJ τ 319 s = lN c ∧ (∀ i, i < n → f (a + i) < 10 ∧ gI τ 321 (24 * s + i) = nI (f (a + i))) ∧ v = c * 1000000000000000000000000 + cd f a n
def KQ (τ : Mem) (p a n s : Nat) (o : Option Nat) : Prop := match o with
  | none => gJ τ 320 s = lN 1000000000000000
  | some v => ∃ c f, c < 1000000000000 ∧ gJ τ 320 s = lN c ∧ (∀ i, i < n → f (a + i) < 10 ∧ gI τ 322 (24 * s + i) = nI (f (a + i))) ∧ gI τ 322 (24 * s + n) = nI p ∧ v = c * 1000000000000000000000000 + (cd f a n + p * ee (a + n + 1))
def om (o : Option Nat) (x : Nat) : Option Nat := match o with
  | none => some x
  | some v => if x < v then some x else some v
theorem Lst_om {S : Nat → Prop} {o : Option Nat} {x : Nat} (h : Lst S o) : Lst (fun y => S y ∨ y = x) (om o x) := by
  cases o with
  | none =>
    refine ⟨Or.inr rfl, ?_⟩
    rintro y (hy | rfl)
    · exact absurd hy (h y)
    · exact Nat.le_refl _
  | some v =>
    show Lst _ (if x < v then some x else some v)
    by_cases c : x < v
    · rw [if_pos c]
      refine ⟨Or.inr rfl, ?_⟩
      rintro y (hy | rfl)
      · have := h.2 y hy; omega
      · exact Nat.le_refl _
    · rw [if_neg c]
      refine ⟨Or.inl h.1, ?_⟩
      rintro y (hy | rfl)
      · exact h.2 y hy
      · omega
theorem cp144 {of s n : Nat} {p : Nat} (hof : of < 250) (hs : s < 250) (hn : n < 24) (N : Nat) : ∀ k σ, ST σ → k ≤ n → n < k + N → ∃ τ, fX9_offer_b144 N 304 (nI of) (nI p) (nI n) (nI s) (nI k) σ = some τ ∧ Fr (fun c j => c = 322 ∧ 24 * s ≤ j ∧ j < 24 * s + 24) σ τ ∧ (∀ i, k ≤ i → i < n → gI τ 322 (24 * s + i) = gI σ 321 (24 * of + i)) ∧ gI τ 322 (24 * s + n) = nI p ∧ ∀ i, i < k → gI τ 322 (24 * s + i) = gI σ 322 (24 * s + i) := by
  induction N with
  | zero => intro k σ _ hk hn; omega
  | succ N ih =>
    intro k σ hS hk hN
    by_cases c : k < n
    · have hS1 := q_sI hS 322 (24 * s + k) (gI σ 321 (24 * of + k))
      obtain ⟨τ, t1, t2, t3, t4, t5⟩ := ih (k + 1) _ hS1 (by omega) (by omega)
      refine ⟨τ, ?_, Fr.tr (Fr.cI (Fr.refl hS) (by omega)) t2, fun i i1 i2 => ?_, t4, fun i hi => ?_⟩
      · show (if nI n ≤ nI k then _ else _) = _
        rw [if_neg (nI_ge c (by omega)), u_R304_32 hS, bs, u_R304_31 hS, bs, w_24, pk_mul, nI_add, u_a321 hS (by omega), bs, pk_mul, nI_add, u_w322 hS (by omega), bs, bd_, nI_1]
        exact t1
      · by_cases e : i = k
        · subst e
          rw [t5 i (by omega), gI_sI1]
        · rw [t3 i (by omega) i2, gI_sI2 (by omega)]
      · rw [t5 i (by omega), gI_sI2 (by omega)]
    · have e : k = n := by omega
      subst e
      refine ⟨sI σ 322 (24 * s + k) (nI p), ?_, Fr.cI (Fr.refl hS) (by omega), fun i i1 i2 => by omega, gI_sI1, fun i hi => gI_sI2 (by omega)⟩
      show (if nI k ≤ nI k then _ else _) = _
      rw [if_pos (nI_le (Nat.le_refl _) (by omega))]
      unfold fX9_offer_b182
      rw [u_R304_32 hS, bs, w_24, pk_mul, nI_add, u_w322 hS (by omega), bs]
theorem tk126 {σ : Mem} {of s n p c a : Nat} {fs : Nat → Nat} (hS : ST σ) (hof : of < 250) (hs : s < 250) (hn : n < 24) (hc : c < 1000000000000) (hfs : ∀ i, i < n → fs (a + i) < 10 ∧ gI σ 321 (24 * of + i) = nI (fs (a + i))) : ∃ τ, fX9_offer_b126 304 (nI of) (nI p) (nI n) (lN c) (nI s) 1 σ = some τ ∧ Fr (fun c j => (c = 320 ∧ j = s) ∨ (c = 322 ∧ 24 * s ≤ j ∧ j < 24 * s + 24)) σ τ ∧ KQ τ p a n s (some (c * 1000000000000000000000000 + (cd fs a n + p * ee (a + n + 1)))) := by
  have hS1 := q_sJ hS 320 s (lN c)
  obtain ⟨τ, t1, t2, t3, t4, -⟩ := cp144 (p := p) hof hs hn FU 0 _ hS1 (Nat.zero_le _) (by unfold FU; omega)
  refine ⟨τ, ?_, Fr.tr (Fr.cJ (Fr.refl hS) (by omega)) (Fr.mono t2 (by intro c j h; omega)), c, fs, hc, ?_, fun i hi => ⟨(hfs i hi).1, ?_⟩, t4, rfl⟩
  · unfold fX9_offer_b126
    rw [if_neg (by decide), u_R304_30 hS, bs, u_w320 hS hs, bs]
    exact t1
  · rw [(t2.2 320 s (by omega)).2.1, gJ_sJ1]
  · rw [t3 i (Nat.zero_le _) hi, rdIJ]
    exact (hfs i hi).2
theorem cm43 {σ : Mem} {of s n p c a : Nat} {fs f : Nat → Nat} (hS : ST σ) (hof : of < 250) (hs : s < 250) (hn : a + n ≤ 24) (hfs : ∀ i, i < n → fs (a + i) < 10 ∧ gI σ 321 (24 * of + i) = nI (fs (a + i))) (hf : ∀ i, i < n → f (a + i) < 10 ∧ gI σ 322 (24 * s + i) = nI (f (a + i))) (N : Nat) : ∀ k, k ≤ n → n < k + N → (∀ i, i < k → fs (a + i) = f (a + i)) → fX9_offer_b43 N 304 (nI of) (nI p) (nI n) (lN c) (nI s) (nI k) σ = fX9_offer_b126 304 (nI of) (nI p) (nI n) (lN c) (nI s) (if cd fs a n < cd f a n then 1 else 0) σ := by
  induction N with
  | zero => intro k hk hN; omega
  | succ N ih =>
    intro k hk hN he
    show (if nI n ≤ nI k then _ else _) = _
    by_cases c : k < n
    · obtain ⟨g1, g2⟩ := hfs k c
      obtain ⟨g3, g4⟩ := hf k c
      rw [if_neg (nI_ge c (by omega)), u_R304_31 hS, bs, w_24, pk_mul, nI_add, u_a321 hS (by omega), bs, u_R304_32 hS, bs, pk_mul, nI_add, u_a322 hS (by omega), bs, g2, g4]
      by_cases c2 : fs (a + k) = f (a + k)
      · rw [if_pos (by rw [c2]), bd_, nI_1]
        exact ih (k + 1) (by omega) (by omega) (fun i hi => by
          by_cases e : i = k
          · subst e; exact c2
          · exact he i (by omega))
      · rw [if_neg (by rw [nI_eq (by omega) (by omega)]; exact c2)]
        unfold fX9_offer_b84
        rw [if_neg (nI_ge c (by omega)), u_R304_31 hS, bs, w_24, pk_mul, nI_add, u_a321 hS (by omega), bs, u_R304_32 hS, bs, pk_mul, nI_add, u_a322 hS (by omega), bs, g2, g4]
        by_cases c3 : f (a + k) ≤ fs (a + k)
        · have := cd_lt (f := f) (f' := fs) c hn (fun i hi => (hf i hi).1) (fun i hi => (hfs i hi).1) (fun i hi => (he i hi).symm) (by omega)
          rw [if_pos (nI_le c3 (by omega)), if_neg (by omega)]
          rfl
        · have := cd_lt (f := fs) (f' := f) c hn (fun i hi => (hfs i hi).1) (fun i hi => (hf i hi).1) he (by omega)
          rw [if_neg (nI_ge (by omega) (by omega)), if_pos this]
          rfl
    · have e : k = n := by omega
      subst e
      rw [if_pos (nI_le (Nat.le_refl _) (by omega))]
      unfold fX9_offer_b84
      rw [if_pos (nI_le (Nat.le_refl _) (by omega)), cd_x (f := fs) (f' := f) k he, if_neg (by omega)]
      rfl
theorem offr {σ : Mem} {of p age n c a : Nat} {fs : Nat → Nat} {o : Option Nat} (hS : ST σ) (hof : of < 250) (hp : p < 10) (hag : age < 25) (hn : a + n < 24) (hc : c < 1000000000000) (hfs : ∀ i, i < n → fs (a + i) < 10 ∧ gI σ 321 (24 * of + i) = nI (fs (a + i))) (hK : KQ σ p a n (25 * p + age) o) : ∃ τ, fX9_offer 304 (nI of) (nI p) (nI age) (nI n) (lN c) σ = some τ ∧ Fr (fun c j => (c = 320 ∧ j = 25 * p + age) ∨ (c = 322 ∧ 24 * (25 * p + age) ≤ j ∧ j < 24 * (25 * p + age) + 24)) σ τ ∧ KQ τ p a n (25 * p + age) (om o (c * 1000000000000000000000000 + (cd fs a n + p * ee (a + n + 1)))) := by
  have hs : 25 * p + age < 250 := by omega
  have take := tk126 (p := p) hS hof hs (by omega) hc hfs
  have st : fX9_offer 304 (nI of) (nI p) (nI age) (nI n) (lN c) σ = if gJ σ 320 (25 * p + age) ≤ lN c then fX9_offer_b25 304 (nI of) (nI p) (nI n) (lN c) (nI (25 * p + age)) 0 σ else fX9_offer_b25 304 (nI of) (nI p) (nI n) (lN c) (nI (25 * p + age)) 1 σ := by
    unfold fX9_offer fX9_state
    rw [b2s, w_25, pk_mul, nI_add, u_R304_30 hS, bs, u_a320 hS hs, bs]
  have b25 (y : Int32) : fX9_offer_b25 304 (nI of) (nI p) (nI n) (lN c) (nI (25 * p + age)) y σ = if lN c = gJ σ 320 (25 * p + age) then fX9_offer_b43 FU 304 (nI of) (nI p) (nI n) (lN c) (nI (25 * p + age)) 0 σ else fX9_offer_b126 304 (nI of) (nI p) (nI n) (lN c) (nI (25 * p + age)) y σ := by
    unfold fX9_offer_b25
    rw [u_R304_30 hS, bs, u_a320 hS hs, bs]
  have keep : fX9_offer_b126 304 (nI of) (nI p) (nI n) (lN c) (nI (25 * p + age)) 0 σ = some σ := by
    unfold fX9_offer_b126
    rw [if_pos rfl]
  cases o with
  | none =>
    have hK : gJ σ 320 (25 * p + age) = lN 1000000000000000 := hK
    rw [st, hK, if_neg (by rw [pk_lLE (by decide) (by omega)]; omega), b25, hK, if_neg (by rw [pk_lEQ (by omega) (by decide)]; omega)]
    exact take
  | some v =>
    obtain ⟨c', f, k1, k2, k3, k4, k5⟩ := hK
    have d1 := cd_b (f := fs) (a := a) (n := n) (by omega) (fun i hi => (hfs i hi).1)
    have d2 := cd_b (f := f) (a := a) (n := n) (by omega) (fun i hi => (k3 i hi).1)
    have d3 := (cd_t (f := fs) (a := a) (k := 0) n (Nat.zero_le _) (by omega) (fun i hi => (hfs i hi).1)).1
    have d4 := (cd_t (f := f) (a := a) (k := 0) n (Nat.zero_le _) (by omega) (fun i hi => (k3 i hi).1)).1
    have d5 := q_ee (q := p) (m := a + n) hp (by omega)
    have d6 := ee_le (a + 0)
    have d7 : cd fs a 0 = 0 := rfl
    have d8 : cd f a 0 = 0 := rfl
    have d9 := ee_pos (a + n + 1)
    have eo : om (some v) (c * 1000000000000000000000000 + (cd fs a n + p * ee (a + n + 1))) = if c * 1000000000000000000000000 + (cd fs a n + p * ee (a + n + 1)) < v then some (c * 1000000000000000000000000 + (cd fs a n + p * ee (a + n + 1))) else some v := rfl
    rw [st, k2, eo]
    by_cases c1 : c' ≤ c
    · rw [if_pos (by rw [pk_lLE (by omega) (by omega)]; exact c1), b25, k2]
      by_cases c2 : c = c'
      · subst c2
        rw [if_pos rfl, w_0, cm43 hS hof hs (by omega) hfs k3 FU 0 (Nat.zero_le _) (by unfold FU; omega) (fun i hi => absurd hi (Nat.not_lt_zero i))]
        by_cases c3 : cd fs a n < cd f a n
        · rw [if_pos c3, if_pos (by omega)]
          exact take
        · rw [if_neg c3, if_neg (by omega), keep]
          exact ⟨σ, rfl, Fr.refl hS, c, f, k1, k2, k3, k4, k5⟩
      · rw [if_neg (by rw [pk_lEQ (by omega) (by omega)]; exact c2), keep, if_neg (by omega)]
        exact ⟨σ, rfl, Fr.refl hS, c', f, k1, k2, k3, k4, k5⟩
    · rw [if_neg (by rw [pk_lLE (by omega) (by omega)]; exact c1), b25, k2, if_neg (by rw [pk_lEQ (by omega) (by omega)]; omega), if_pos (by omega)]
      exact take
/-! turn -/
theorem tn32 {s : Nat} {rc : Nat → Int32 → Mem → Option (Mem)} (hs : s < 250) (N : Nat) : ∀ k σ, ST σ → k ≤ 24 → 24 < k + N → ∃ τ, fX9_turn_b32 rc N 304 (nI s) (nI k) σ = rc 304 (nI (s + 1)) τ ∧ Fr (fun c j => c = 321 ∧ 24 * s ≤ j ∧ j < 24 * s + 24) σ τ ∧ (∀ i, k ≤ i → i < 24 → gI τ 321 (24 * s + i) = gI σ 322 (24 * s + i)) ∧ ∀ i, i < k → gI τ 321 (24 * s + i) = gI σ 321 (24 * s + i) := by
  induction N with
  | zero => intro k σ _ hk hn; omega
  | succ N ih =>
    intro k σ hS hk hN
    by_cases c : k < 24
    · have hS1 := q_sI hS 321 (24 * s + k) (gI σ 322 (24 * s + k))
      obtain ⟨τ, t1, t2, t3, t5⟩ := ih (k + 1) _ hS1 (by omega) (by omega)
      refine ⟨τ, ?_, Fr.tr (Fr.cI (Fr.refl hS) (by omega)) t2, fun i i1 i2 => ?_, fun i hi => ?_⟩
      · show (if 24 ≤ nI k then _ else _) = _
        rw [w_24, if_neg (nI_ge c (by omega)), u_R304_31 hS, bs, u_R304_32 hS, bs, pk_mul, nI_add, u_a322 hS (by omega), bs, u_w321 hS (by omega), bs, bd_, nI_1]
        exact t1
      · by_cases e : i = k
        · subst e
          rw [t5 i (by omega), gI_sI1]
        · rw [t3 i (by omega) i2, gI_sI2 (by omega)]
      · rw [t5 i (by omega), gI_sI2 (by omega)]
    · have e : k = 24 := by omega
      subst e
      refine ⟨σ, ?_, Fr.refl hS, fun i i1 i2 => by omega, fun _ _ => rfl⟩
      show (if 24 ≤ nI 24 then fX9_turn_b66 rc 304 (nI s) σ else _) = _
      rw [if_pos (by decide)]
      unfold fX9_turn_b66
      rw [bd_, nI_1]
theorem tn2 (N : Nat) : ∀ s σ, ST σ → s ≤ 250 → 250 < s + N → ∃ τ, fX9_turn_b2 N 304 (nI s) σ = some τ ∧ Fr (fun c _ => 319 ≤ c ∧ c ≤ 321) σ τ ∧ (∀ t, s ≤ t → t < 250 → gJ τ 319 t = gJ σ 320 t ∧ gJ τ 320 t = lN 1000000000000000 ∧ ∀ i, i < 24 → gI τ 321 (24 * t + i) = gI σ 322 (24 * t + i)) ∧ ∀ t, t < s → gJ τ 319 t = gJ σ 319 t ∧ gJ τ 320 t = gJ σ 320 t ∧ ∀ i, i < 24 → gI τ 321 (24 * t + i) = gI σ 321 (24 * t + i) := by
  induction N with
  | zero => intro k σ _ hk hn; omega
  | succ N ih =>
    intro s σ hS hs hN
    by_cases c : s < 250
    · have hS2 := q_sJ (q_sJ hS 319 s (gJ σ 320 s)) 320 s (1000000000000000)
      obtain ⟨τ1, t1, t2, t3, -⟩ := tn32 (rc := fX9_turn_b2 N) c FU 0 _ hS2 (by omega) (by unfold FU; omega)
      obtain ⟨τ, u1, u2, u3, u4⟩ := ih (s + 1) τ1 t2.1 (by omega) (by omega)
      have F : Fr (fun c _ => 319 ≤ c ∧ c ≤ 321) σ τ1 := Fr.tr (Fr.cJ (Fr.cJ (Fr.refl hS) (by omega)) (by omega)) (Fr.mono t2 (by intro c j h; omega))
      have a1 (t : Nat) (h : t ≠ s) : gJ τ1 319 t = gJ σ 319 t ∧ gJ τ1 320 t = gJ σ 320 t := by
        rw [(t2.2 319 t (by omega)).2.1, (t2.2 320 t (by omega)).2.1, gJ_sJ2 (by omega), gJ_sJ2 (by omega), gJ_sJ2 (by omega), gJ_sJ2 (by omega)]
        exact ⟨rfl, rfl⟩
      have a2 (t i : Nat) (h : t ≠ s) (hi : i < 24) : gI τ1 321 (24 * t + i) = gI σ 321 (24 * t + i) := (t2.2 321 _ (by omega)).1
      have a3 (j : Nat) : gI τ1 322 j = gI σ 322 j := (t2.2 322 _ (by omega)).1
      refine ⟨τ, ?_, Fr.tr F u2, fun t h1 h2 => ?_, fun t ht => ?_⟩
      · show (if 250 ≤ nI s then _ else _) = _
        rw [w_250, if_neg (nI_ge c (by omega)), u_R304_29 hS, bs, u_R304_30 hS, bs, u_a320 hS c, bs, u_w319 hS c, bs, u_R304_30 (q_sJ hS _ _ _), bs, u_w320 (q_sJ hS _ _ _) c, bs]
        exact t1.trans u1
      · by_cases e : t = s
        · subst e
          obtain ⟨v1, v2, v3⟩ := u4 t (by omega)
          refine ⟨?_, ?_, fun i hi => ?_⟩
          · rw [v1, (t2.2 319 t (by omega)).2.1, gJ_sJ2 (by omega), gJ_sJ1]
          · rw [v2, (t2.2 320 t (by omega)).2.1, gJ_sJ1]
            rfl
          · rw [v3 i hi, t3 i (Nat.zero_le _) hi]
            rfl
        · obtain ⟨v1, v2, v3⟩ := u3 t (by omega) h2
          refine ⟨v1.trans (a1 t e).2, v2, fun i hi => (v3 i hi).trans (a3 _)⟩
      · obtain ⟨v1, v2, v3⟩ := u4 t (by omega)
        exact ⟨v1.trans (a1 t (by omega)).1, v2.trans (a1 t (by omega)).2, fun i hi => (v3 i hi).trans (a2 t i (by omega) hi)⟩
    · have e : s = 250 := by omega
      subst e
      exact ⟨σ, rfl, Fr.refl hS, fun t h1 h2 => by omega, fun t _ => ⟨rfl, rfl, fun _ _ => rfl⟩⟩
theorem turn_ {σ : Mem} (hS : ST σ) : ∃ τ, fX9_turn 304 σ = some τ ∧ Fr (fun c _ => 319 ≤ c ∧ c ≤ 321) σ τ ∧ ∀ t, t < 250 → gJ τ 319 t = gJ σ 320 t ∧ gJ τ 320 t = lN 1000000000000000 ∧ ∀ i, i < 24 → gI τ 321 (24 * t + i) = gI σ 322 (24 * t + i) := by
  obtain ⟨τ, t1, t2, t3, -⟩ := tn2 FU 0 σ hS (by omega) (by unfold FU; omega)
  exact ⟨τ, t1, t2, fun t ht => t3 t (Nat.zero_le _) ht⟩
theorem KQ_turn {σ τ : Mem} {p a n s : Nat} {o : Option Nat} (hs : s < 250) (hp : p < 10) (hn : n < 24) (ht : gJ τ 319 s = gJ σ 320 s ∧ gJ τ 320 s = lN 1000000000000000 ∧ ∀ i, i < 24 → gI τ 321 (24 * s + i) = gI σ 322 (24 * s + i)) (h : KQ σ p a n s o) : KO τ a (n + 1) s o := by
  obtain ⟨t1, -, t3⟩ := ht
  cases o with
  | none => exact t1.trans h
  | some v =>
    obtain ⟨c, f, k1, k2, k3, k4, k5⟩ := h
    refine ⟨c, fun i => if i = a + n then p else f i, k1, t1.trans k2, fun i hi => ?_, ?_⟩
    · rw [t3 i (by omega)]
      by_cases e : i = n
      · subst e
        simp only [if_pos]
        exact ⟨hp, k4⟩
      · have e2 : ¬ a + i = a + n := by omega
        simp only [if_neg e2]
        exact k3 i (by omega)
    · rw [k5]
      show _ = c * 1000000000000000000000000 + (cd (fun i => if i = a + n then p else f i) a n + (if a + n = a + n then p else f (a + n)) * ee (a + n + 1))
      rw [if_pos rfl, cd_x (f := fun i => if i = a + n then p else f i) (f' := f) n (fun i hi => if_neg (by omega))]
