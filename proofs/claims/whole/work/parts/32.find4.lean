/-! the reference's search: its end; best -/
theorem iA {σ : Mem} {a n s t : Nat} {f f' : Nat → Nat} (hS : ST σ) (hs : s < 250) (ht : t < 250) (hn : a + n ≤ 24) (hf : ∀ i, i < n → f (a + i) < 10 ∧ gI σ 321 (24 * s + i) = nI (f (a + i))) (hf' : ∀ i, i < n → f' (a + i) < 10 ∧ gI σ 321 (24 * t + i) = nI (f' (a + i))) (N : Nat) : ∀ k, k ≤ n → n < k + N → (∀ i, i < k → f (a + i) = f' (a + i)) → fX9_isAhead_b3 N 304 (nI s) (nI t) (nI n) (nI k) σ = some (if cd f a n < cd f' a n then 1 else 0, σ) := by
  induction N with
  | zero => intro k hk hN; omega
  | succ N ih =>
    intro k hk hN he
    rw [fX9_isAhead_b3]
    by_cases c : k < n
    · obtain ⟨g1, g2⟩ := hf k c
      obtain ⟨g3, g4⟩ := hf' k c
      rw [if_neg (nI_ge c (by omega)), u_R304_31 hS, bs, w_24, pk_mul, nI_add, u_a321 hS (by omega), bs, bs, pk_mul, nI_add, u_a321 hS (by omega), bs, g2, g4]
      by_cases c2 : f (a + k) = f' (a + k)
      · rw [if_pos (by rw [c2]), bd_, nI_1]
        exact ih (k + 1) (by omega) (by omega) (fun i hi => by
          by_cases e : i = k
          · subst e; exact c2
          · exact he i (by omega))
      · rw [if_neg (by rw [nI_eq (by omega) (by omega)]; exact c2)]
        unfold fX9_isAhead_b42
        rw [if_neg (nI_ge c (by omega)), u_R304_31 hS, bs, w_24, pk_mul, nI_add, u_a321 hS (by omega), bs, bs, pk_mul, nI_add, u_a321 hS (by omega), bs, g2, g4]
        by_cases c3 : f' (a + k) ≤ f (a + k)
        · have := cd_lt (f := f') (f' := f) c hn (fun i hi => (hf' i hi).1) (fun i hi => (hf i hi).1) (fun i hi => (he i hi).symm) (by omega)
          rw [if_pos (nI_le c3 (by omega)), if_neg (by omega)]
          rfl
        · have := cd_lt (f := f) (f' := f') c hn (fun i hi => (hf i hi).1) (fun i hi => (hf' i hi).1) he (by omega)
          rw [if_neg (nI_ge (by omega) (by omega)), if_pos this]
          rfl
    · have e : k = n := by omega
      subst e
      rw [if_pos (nI_le (Nat.le_refl _) (by omega))]
      unfold fX9_isAhead_b42
      rw [if_pos (nI_le (Nat.le_refl _) (by omega)), cd_x (f := f) (f' := f') k he, if_neg (by omega)]
      rfl
theorem Lst_un {S T : Nat → Prop} {o : Option Nat} {y : Nat} (h : Lst S o) (hT : Lst T (some y)) : Lst (fun x => S x ∨ T x) (om o y) := by
  cases o with
  | none =>
    refine ⟨Or.inr hT.1, ?_⟩
    rintro z (hz | hz)
    · exact absurd hz (h z)
    · exact hT.2 z hz
  | some v =>
    show Lst _ (if y < v then some y else some v)
    by_cases c : y < v
    · rw [if_pos c]
      refine ⟨Or.inr hT.1, ?_⟩
      rintro z (hz | hz)
      · have := h.2 z hz; omega
      · exact hT.2 z hz
    · rw [if_neg c]
      refine ⟨Or.inl h.1, ?_⟩
      rintro z (hz | hz)
      · exact h.2 z hz
      · have := hT.2 z hz; omega
def FS (g : GD) (a i p ag x : Nat) : Prop := ∃ q age, (q < p ∨ (q = p ∧ age < ag)) ∧ PP g a i q age x
def BS (g : GD) (a n : Nat) (σ : Mem) (o : Option Nat) (x : Int32) : Prop := (o = none ∧ x = -1) ∨ ∃ v q age, o = some v ∧ q < gP g ∧ 1 ≤ age ∧ age ≤ gT g q ∧ x = nI (25 * q + age) ∧ KO σ a n (25 * q + age) (some v)
theorem e340 {w : WD} {h a b p : Nat} {σ : Mem} {rc : Nat → Int32 → Int32 → Int32 → Int32 → Mem → Option (Int32 × Mem)} (hw : okW w) (hS : ST σ) (h9 : H9 σ w) (hab : a < b) (hb : b ≤ 24) (hp : p < w.1) (hcur : CUR (gdOf w h) a (b - a - 1) σ) (n : Nat) : ∀ ag o x4, 1 ≤ ag → ag ≤ gT (gdOf w h) p + 1 → gT (gdOf w h) p + 1 < ag + n → Lst (FS (gdOf w h) a (b - a - 1) p ag) o → BS (gdOf w h) a (b - a) σ o x4 → ∃ o' x4', fX9_find_b340 rc n 304 (nI a) (nI b) x4 (nI p) (nI ag) σ = fX9_find_b441 rc 304 (nI a) (nI b) x4' (nI p) σ ∧ Lst (FS (gdOf w h) a (b - a - 1) (p + 1) 1) o' ∧ BS (gdOf w h) a (b - a) σ o' x4' := by
  have hP := hw.1
  have hg := gd_ok (h := h) hw
  have eP : gP (gdOf w h) = w.1 := rfl
  have tp' : 1 ≤ (w.2.1 p).2.1 ∧ (w.2.1 p).2.1 ≤ 24 := hg.2.1 p hp
  have eT : gT (gdOf w h) p = (w.2.1 p).2.1 := rfl
  induction n with
  | zero => intro ag o x4 _ _ hn; omega
  | succ n ih =>
    intro ag o x4 h1 h2 h3 hL hB
    rw [fX9_find_b340, u_R304_13 hS, bs, trmA hS hw h9 hp, bs]
    by_cases c : ag ≤ gT (gdOf w h) p
    · have c' : ag ≤ (w.2.1 p).2.1 := c
      obtain ⟨os, s1, s2⟩ := hcur p ag hp h1 c
      rw [show b - a - 1 + 1 = b - a by omega] at s2
      have keep (hL2 : Lst (FS (gdOf w h) a (b - a - 1) p (ag + 1)) o) : ∃ o' x4', fX9_find_b435 rc (fX9_find_b340 rc n) 304 (nI a) (nI b) x4 (nI p) (nI ag) σ = fX9_find_b441 rc 304 (nI a) (nI b) x4' (nI p) σ ∧ Lst (FS (gdOf w h) a (b - a - 1) (p + 1) 1) o' ∧ BS (gdOf w h) a (b - a) σ o' x4' := by
        unfold fX9_find_b435
        rw [bd_, nI_1]
        exact ih (ag + 1) o x4 (by omega) (by omega) (by omega) hL2 hB
      have un (y : Nat) (hy : os = some y) : Lst (FS (gdOf w h) a (b - a - 1) p (ag + 1)) (om o y) := by
        subst hy
        refine Lst_x (fun x => ?_) (Lst_un hL s1)
        constructor
        · rintro (⟨q, age, k1, k2⟩ | k)
          · exact ⟨q, age, by omega, k2⟩
          · exact ⟨p, ag, Or.inr ⟨rfl, by omega⟩, k⟩
        · rintro ⟨q, age, k1, k2⟩
          by_cases e : q = p ∧ age = ag
          · obtain ⟨rfl, rfl⟩ := e
            exact Or.inr k2
          · exact Or.inl ⟨q, age, by omega, k2⟩
      have take (y : Nat) (hy : os = some y) (hL2 : Lst (FS (gdOf w h) a (b - a - 1) p (ag + 1)) (some y)) : ∃ o' x4', fX9_find_b431 rc (fX9_find_b340 rc n) 304 (nI a) (nI b) (nI p) (nI ag) (nI (25 * p + ag)) σ = fX9_find_b441 rc 304 (nI a) (nI b) x4' (nI p) σ ∧ Lst (FS (gdOf w h) a (b - a - 1) (p + 1) 1) o' ∧ BS (gdOf w h) a (b - a) σ o' x4' := by
        unfold fX9_find_b431 fX9_find_b435
        rw [bd_, nI_1]
        refine ih (ag + 1) (some y) _ (by omega) (by omega) (by omega) hL2 (Or.inr ⟨y, p, ag, rfl, hp, h1, c, rfl, ?_⟩)
        subst hy
        exact s2
      unfold fX9_state
      rw [if_neg (nI_nlt c' (by omega)), b2s, w_25, pk_mul, nI_add, u_R304_29 hS, bs, u_a319 hS (by omega), bs]
      have lit : (1000000000000000 : Int64) = lN 1000000000000000 := rfl
      cases os with
      | none =>
        have s2 : gJ σ 319 (25 * p + ag) = lN 1000000000000000 := s2
        rw [s2, lit, if_pos (by rw [pk_lLE (by decide) (by decide)]; omega)]
        refine keep (Lst_x (fun x => ?_) hL)
        constructor
        · rintro ⟨q, age, k1, k2⟩; exact ⟨q, age, by omega, k2⟩
        · rintro ⟨q, age, k1, k2⟩
          by_cases e : q = p ∧ age = ag
          · obtain ⟨rfl, rfl⟩ := e
            exact absurd k2 (s1 x)
          · exact ⟨q, age, by omega, k2⟩
      | some y =>
        have un := un y rfl
        obtain ⟨cc, f, k1, k2, k3, k4⟩ := s2
        rw [k2, lit, if_neg (by rw [pk_lLE (by decide) (by omega)]; omega)]
        rcases hB with ⟨rfl, rfl⟩ | ⟨v, q0, g0, rfl, b1, b2', b3, rfl, b4⟩
        · rw [if_pos rfl]
          exact take y rfl un
        · have t0 := hg.2.1 q0 b1
          obtain ⟨cv, fv, l1, l2, l3, l4⟩ := b4
          have d1 := cd_b (f := f) (a := a) (n := b - a) (by omega) (fun j hj => (k3 j hj).1)
          have d2 := cd_b (f := fv) (a := a) (n := b - a) (by omega) (fun j hj => (l3 j hj).1)
          have eo : om (some v) y = if y < v then some y else some v := rfl
          rw [eo] at un
          rw [if_neg (by rw [w_1, m1_ne (by omega)]; exact id), bs, u_a319 hS (by omega), bs, k2, bs, u_a319 hS (by omega), bs, l2]
          by_cases c1 : cc < cv
          · rw [if_pos (by rw [pk_lLT (by omega) (by omega)]; exact c1)]
            rw [if_pos (by omega)] at un
            exact take y rfl un
          · rw [if_neg (by rw [pk_lLT (by omega) (by omega)]; exact c1)]
            rw [bs, u_a319 hS (by omega), bs, k2, bs, u_a319 hS (by omega), bs, l2]
            by_cases c2 : cc = cv
            · subst c2
              unfold fX9_isAhead
              rw [if_pos rfl, u_kT304 hS, bs, pk_sub (by omega), w_0, iA hS (by omega) (by omega) (by omega) k3 l3 FU 0 (Nat.zero_le _) (by unfold FU; omega) (fun i hi => absurd hi (Nat.not_lt_zero i)), b2s]
              by_cases c3 : cd f a (b - a) < cd fv a (b - a)
              · rw [if_pos c3, if_neg (by decide)]
                rw [if_pos (by omega)] at un
                exact take y rfl un
              · rw [if_neg c3, if_pos (by decide)]
                rw [if_neg (by omega)] at un
                exact keep un
            · rw [if_neg (by rw [pk_lEQ (by omega) (by omega)]; exact c2)]
              rw [if_neg (by omega)] at un
              exact keep un
    · have e : ag = gT (gdOf w h) p + 1 := by omega
      subst e
      rw [if_pos (nI_lt (by omega) (by omega))]
      refine ⟨o, x4, rfl, Lst_x (fun x => ?_) hL, hB⟩
      constructor
      · rintro ⟨q, age, k1, k2⟩; exact ⟨q, age, by omega, k2⟩
      · rintro ⟨q, age, k1, k2⟩
        obtain ⟨j1, j2, j3⟩ := PP_a hg _ _ _ _ k2
        refine ⟨q, age, ?_, k2⟩
        by_cases e : q = p
        · subst e; omega
        · omega
theorem e328 {w : WD} {h a b : Nat} {σ : Mem} (hw : okW w) (hS : ST σ) (h9 : H9 σ w) (hab : a < b) (hb : b ≤ 24) (hcur : CUR (gdOf w h) a (b - a - 1) σ) (n : Nat) : ∀ p o x4, p ≤ w.1 → w.1 < p + n → Lst (FS (gdOf w h) a (b - a - 1) p 1) o → BS (gdOf w h) a (b - a) σ o x4 → ∃ o' x4', fX9_find_b328 n 304 (nI a) (nI b) x4 (nI p) σ = some (x4', σ) ∧ Lst (FS (gdOf w h) a (b - a - 1) w.1 1) o' ∧ BS (gdOf w h) a (b - a) σ o' x4' := by
  have hP := hw.1
  have hg := gd_ok (h := h) hw
  induction n with
  | zero => intro p o x4 _ hn; omega
  | succ n ih =>
    intro p o x4 h1 h2 hL hB
    rw [fX9_find_b328, u_fI304 hS, bs, h9.1]
    by_cases c : p < w.1
    · have tp := hg.2.1 p c
      obtain ⟨o1, y1, t1, t2, t3⟩ := e340 (rc := fX9_find_b328 n) hw hS h9 hab hb c hcur FU 1 o x4 (Nat.le_refl _) (by omega) (by unfold FU; omega) hL hB
      obtain ⟨o2, y2, u1, u2, u3⟩ := ih (p + 1) o1 y1 (by omega) (by omega) t2 t3
      refine ⟨o2, y2, ?_, u2, u3⟩
      rw [if_neg (nI_ge c (by omega)), w_1, t1]
      unfold fX9_find_b441
      rw [bd_, w_1, nI_add]
      exact u1
    · have e : p = w.1 := by omega
      subst e
      rw [if_pos (nI_le (Nat.le_refl _) (by omega))]
      exact ⟨o, x4, rfl, hL, hB⟩
theorem find_ {σ : Mem} {w : WD} {h a b : Nat} (hS : ST σ) (hw : okW w) (h9 : H9 σ w) (hh : h < 16) (hab : a < b) (hb : b ≤ 24) : ∃ o r τ, fX9_find 304 (nI h) (nI a) (nI b) σ = some (r, τ) ∧ Fr fr4 σ τ ∧ Lst (FP (gdOf w h) a b 0) o ∧ ((o = none ∧ r = -1) ∨ ∃ v s, o = some v ∧ s < 250 ∧ r = nI s ∧ KO τ a (b - a) s (some v)) := by
  have hP := hw.1
  have hg := gd_ok (h := h) hw
  obtain ⟨τ1, t1, t2, t3, -⟩ := fl3 (X := nI h) (A := nI a) (Y := nI b) FU 0 σ hS (by omega) (by unfold FU; omega)
  have h91 := H9_q t2 (by intro c k h; unfold fq at h; omega) h9
  obtain ⟨τ2, u1, u2, u3⟩ := in30 (Y := nI b) hw hh (by omega : a < 24) FU 0 τ1 t2.1 h91 (NXT_0 hg (fun s hs => t3 s (Nat.zero_le _) hs) (by rintro q age z ⟨k, -⟩; omega)) (by omega) (by unfold FU; omega)
  obtain ⟨τ3, v1, v2, v3⟩ := turn_ u2.1
  have h92 := H9_q u2 (by intro c k h; unfold fq at h; omega) h91
  have h93 := H9_q v2 (by intro c k h; omega) h92
  have cur0 : CUR (gdOf w h) a 0 τ3 := by
    intro q age k1 k2 k3
    obtain ⟨o, o1, o2⟩ := u3 q age k1 k2 k3
    have k4 := hg.2.1 q k1
    have k5 : q < w.1 := k1
    exact ⟨o, o1, KQ_turn (by omega) (by omega) (by omega) (v3 _ (by omega)) o2⟩
  obtain ⟨τ4, x1, x2, x3⟩ := mo92 hw hh hab hb FU 0 τ3 v2.1 h93 cur0 (fun s hs => (v3 s hs).2.1) (by omega) (by unfold FU; omega)
  have h94 := H9_q x2 (by intro c k h; unfold fr4 at h; omega) h93
  obtain ⟨o, r, y1, y2, y3⟩ := e328 hw x2.1 h94 hab hb x3 FU 0 none (-1) (by omega) (by unfold FU; omega) (by rintro x ⟨q, age, k1, k2⟩; have := (PP_a hg _ _ _ _ k2).2.1; omega) (Or.inl ⟨rfl, rfl⟩)
  refine ⟨o, r, τ4, ?_, ?_, ?_, ?_⟩
  · unfold fX9_find
    rw [w_0, t1]
    unfold fX9_find_b27
    rw [w_0, u1]
    unfold fX9_find_b83
    rw [u_kT304 u2.1, bs, v1, bs, bd_, nI_1]
    refine Eq.trans x1 ?_
    unfold fX9_find_b322
    rw [w_0]
    exact y1
  · exact Fr.tr (Fr.trans t2 u2 (by intro c k h; unfold fq at h; unfold fr4; omega) (by intro c k h; unfold fq at h; unfold fr4; omega)) (Fr.trans v2 x2 (by intro c k h; unfold fr4; omega) (fun _ _ h => h))
  · refine Lst_x (fun x => ?_) y2
    rw [FP_E hg hab]
    constructor
    · rintro ⟨q, age, -, k⟩; exact ⟨q, age, k⟩
    · rintro ⟨q, age, k⟩; exact ⟨q, age, Or.inl (PP_a hg _ _ _ _ k).1, k⟩
  · rcases y3 with k | ⟨v, q, age, k1, k2, k3, k4, k5, k6⟩
    · exact Or.inl k
    · have k7 := hg.2.1 q k2
      have k8 : q < w.1 := k2
      exact Or.inr ⟨v, 25 * q + age, k1, by omega, k5, k6⟩
/-! best -/
theorem fRow (n : Nat) : ∀ i σ, ST σ → i ≤ 24 → 24 < i + n → ∃ τ, fX8_forgetRow_b2 n 0 (nI i) σ = some τ ∧ Fr (fun c _ => c = 161) σ τ ∧ (∀ j, i ≤ j → j < 24 → gI τ 161 j = -1) ∧ ∀ j, j < i → gI τ 161 j = gI σ 161 j := by
  induction n with
  | zero => intro i σ _ _ hn; omega
  | succ n ih =>
    intro i σ hS hi hn
    rw [fX8_forgetRow_b2]
    by_cases c : i < 24
    · obtain ⟨τ, t1, t2, t3, t4⟩ := ih (i + 1) _ (q_sI hS 161 i (-1)) (by omega) (by omega)
      refine ⟨τ, ?_, Fr.tr (Fr.cI (Fr.refl hS) rfl) t2, fun j j1 j2 => ?_, fun j hj => ?_⟩
      · rw [w_24, if_neg (nI_ge c (by omega)), u_R0_7 hS, bs, u_w161 hS c, bs, bd_, nI_1]
        exact t1
      · by_cases e : j = i
        · subst e; rw [t4 j (by omega), gI_sI1]
        · exact t3 j (by omega) j2
      · rw [t4 j (by omega), gI_sI2 (by omega)]
    · have : i = 24 := by omega
      subst this
      rw [if_pos (by decide)]
      exact ⟨σ, rfl, Fr.refl hS, fun j j1 j2 => by omega, fun _ _ => rfl⟩
theorem b67 {a b s : Nat} (hs : s < 250) (hab : a < b) (hb : b ≤ 24) (n : Nat) : ∀ k σ, ST σ → k ≤ b - a → b - a < k + n → ∃ τ, fX9_best_b67 n 304 (nI a) (nI b) (nI s) (nI k) σ = some (gJ σ 319 s, τ) ∧ Fr (fun c _ => c = 323) σ τ ∧ (∀ j, k ≤ j → j < b - a → gI τ 323 j = gI σ 321 (24 * s + j)) ∧ ∀ j, j < k → gI τ 323 j = gI σ 323 j := by
  induction n with
  | zero => intro i σ _ _ hn; omega
  | succ n ih =>
    intro k σ hS hk hn
    rw [fX9_best_b67, pk_sub (by omega)]
    by_cases c : k < b - a
    · obtain ⟨τ, t1, t2, t3, t4⟩ := ih (k + 1) _ (q_sI hS 323 k (gI σ 321 (24 * s + k))) (by omega) (by omega)
      refine ⟨τ, ?_, Fr.tr (Fr.cI (Fr.refl hS) rfl) t2, fun j j1 j2 => ?_, fun j hj => ?_⟩
      · rw [if_neg (nI_ge c (by omega)), u_R304_33 hS, bs, u_R304_31 hS, bs, w_24, pk_mul, nI_add, u_a321 hS (by omega), bs, u_w323 hS (by omega), bs, bd_, nI_1]
        exact t1
      · by_cases e : j = k
        · subst e; rw [t4 j (by omega), gI_sI1]
        · rw [t3 j (by omega) j2, gI_sI2 (by omega)]
      · rw [t4 j (by omega), gI_sI2 (by omega)]
    · have : k = b - a := by omega
      subst this
      rw [if_pos (nI_le (Nat.le_refl _) (by omega))]
      unfold fX9_best_b101
      rw [u_R304_29 hS, bs, u_a319 hS hs, bs]
      exact ⟨σ, rfl, Fr.refl hS, fun j j1 j2 => by omega, fun _ _ => rfl⟩
theorem op_best (x y z : Int32) : OpL Rel (fX8_best 0 x y z) (fX9_best 304 x y z) := by
  intro σ h
  have hS := h.1
  have hS1 := q_sI hS 304 0 0
  have hT := Rel_th h 0
  have no (k : fX8_best 0 x y z σ = some (-1, σ)) (k2 : fX9_best 304 x y z σ = some (-1, sI σ 304 0 0)) : ∃ r σ1 σ2, fX8_best 0 x y z σ = some (r, σ1) ∧ kd σ1 304 = 9 ∧ fX9_best 304 x y z σ1 = some (r, σ2) ∧ Rel σ2 := ⟨-1, σ, _, k, k9 hS, k2, hT⟩
  rcases iw (x := x) (σ := σ) (a := 1) (b := 15) (by decide) (by decide) with ⟨hs, x1, x2, rfl, e1⟩ | ⟨e0, e1⟩
  · have i1 : ¬ nI hs < 1 := by rw [w_1]; exact nI_nlt x1 (by omega)
    have i2 : ¬ 15 < nI hs := by rw [w_15]; exact nI_nlt x2 (by decide)
    by_cases c1 : y < 0
    · refine no ?_ ?_
      · unfold fX8_best; rw [w_1, w_15, e1, b2s, if_neg (by decide), if_pos c1]; rfl
      · unfold fX9_best; rw [u_pI304 hS, bs, if_neg i1, if_neg i2, if_pos c1]; rfl
    by_cases c2 : z ≤ y
    · refine no ?_ ?_
      · unfold fX8_best; rw [w_1, w_15, e1, b2s, if_neg (by decide), if_neg c1, if_pos c2]; rfl
      · unfold fX9_best; rw [u_pI304 hS, bs, if_neg i1, if_neg i2, if_neg c1, if_pos c2]; rfl
    by_cases c3 : z ≤ 24
    · obtain ⟨a, ha, rfl⟩ := nI_of c1
      have c4 : ¬ z < 0 := fun q => c2 (Int32.le_of_lt (Int32.lt_of_lt_of_le q (Int32.not_lt.mp c1)))
      obtain ⟨b, hb, rfl⟩ := nI_of2 (M := 24) (n := 24) rfl c4 c3
      rw [nI_leI (by omega) ha] at c2
      have hab : a < b := by omega
      obtain ⟨B, w, hw, h8, h9, hB⟩ := wd_of h
      have hP := hw.1
      have hg := gd_ok (h := hs) hw
      obtain ⟨o, τ, t1, t2, t3, t4, t5, t6⟩ := srch hS hw h8 (by omega : hs < 16) hab hb
      have x8 : fX8_best 0 (nI hs) (nI a) (nI b) σ = if cst o = -1 then some (cst o, τ) else (kT τ 8 (some 0)).bind fun k15 => (fX8_forgetRow k15 τ).bind fun m16 => (fR m16 8 3 (some 0)).bind fun t17 => (fR m16 8 7 (some 0)).bind fun t18 => (kT m16 5 t17).bind fun k19 => (fX5_writeRow k19 t18 m16).bind fun m20 => fX8_best_b77 (cst o) m20 := by
        unfold fX8_best
        rw [w_1, w_15, e1, b2s, if_neg (by decide), if_neg c1, if_neg (by rw [nI_leI (by omega) ha]; exact c2), if_pos c3, u_R0_3 hS, bs, u_R0_8 hS, bs, hB, u_R0_2 hS, bs, u_fI0 hS, bs, h8.2.2.2.2, u_kT149 hS, bs, t1, b2s]
        rfl
      have x9 (υ : Mem) (k1 : ST υ) (k2 : H9 υ w) : ∃ r χ, fX9_best 304 (nI hs) (nI a) (nI b) υ = (if r = -1 then some (-1, χ) else (pI χ 9 34 (some 304) (nI a)).bind fun m11 => (pI m11 9 35 (some 304) (nI b)).bind fun m12 => fX9_best_b67 FU 304 (nI a) (nI b) r 0 m12) ∧ Fr fr4 (sI υ 304 0 0) χ ∧ ((o = none ∧ r = -1) ∨ ∃ v s, o = some v ∧ s < 250 ∧ r = nI s ∧ KO χ a (b - a) s (some v)) := by
        have k3 := q_sI k1 304 0 0
        have k4 : H9 (sI υ 304 0 0) w := H9_fr (fun c hc => gI_sI_n (nBk hc (by simp [inBk]))) (gI_sI_n (by decide)) (gI_sI2 (by decide)) (gI_sI2 (by decide)) k2
        obtain ⟨o', r, χ, u1, u2, u3, u4⟩ := find_ k3 hw k4 (by omega : hs < 16) hab hb
        have := Lst_u u3 t4
        subst this
        refine ⟨r, χ, ?_, u2, u4⟩
        unfold fX9_best
        rw [u_pI304 k1, bs, if_neg i1, if_neg i2, if_neg c1, if_neg (by rw [nI_leI (by omega) ha]; exact c2), if_pos c3, u_kT304 k3, bs, u1, b2s]
      cases o with
      | none =>
        have k2 : H9 τ w := H9_Fr t2 (fun c hc k q => by unfold inBk at hc; omega) (fun k q => by omega) (fun q => by omega) (fun q => by omega) h9
        obtain ⟨r, χ, u1, u2, u3⟩ := x9 τ t2.1 k2
        rcases u3 with ⟨-, rfl⟩ | ⟨v, s, k, -⟩
        · rw [if_pos rfl] at u1
          rw [show cst none = -1 from rfl, if_pos rfl] at x8
          refine ⟨-1, τ, χ, x8, k9 t2.1, u1, ?_⟩
          exact Rel_Fr (p := fun c k => (148 ≤ c ∧ c ≤ 153) ∨ (c = 304 ∧ k = 0) ∨ (319 ≤ c ∧ c ≤ 322)) (Fr.tr (Fr.cI (Fr.mono t2 (by intro c k h; omega)) (by simp)) (Fr.mono u2 (by intro c k h; unfold fr4 at h; omega))) (by intro c k hk; unfold rl inBk; omega) h
        · cases k
      | some v =>
        -- the class's row
        obtain ⟨q, q1, q2, q3⟩ := t6 v rfl
        obtain ⟨σ2, f1, f2, f3, -⟩ := fRow FU 0 τ t2.1 (by omega) (by unfold FU; omega)
        have B2 : SB σ2 B w a b := by
          obtain ⟨b1, b2', b3, b4, b5⟩ := t3
          exact ⟨f2.1, H8_Fr f2 hw (fun c hc k q => by unfold inBk at hc; omega) (fun k q => by omega) (fun q => by omega) b2', (f2.2 149 4 (by omega)).2.2.trans b3, (f2.2 149 5 (by omega)).1.trans b4, (f2.2 149 6 (by omega)).1.trans b5⟩
        have hv := SP_b hg hb (b - a) a _ _ v (by omega) q2.2
        obtain ⟨C0, D0, v1, v2, v3⟩ := hv
        have v4 := ee_le a
        have v5 : (b - a) * 3200779999 ≤ 24 * 3200779999 := Nat.mul_le_mul_right _ (by omega)
        obtain ⟨σ3, f, C, w1, w2, w3, w4, w5⟩ := wR1 (h := hs) hw hb FU a q (a + (w.2.1 q).2.1) v σ2 B2 (fun i q' i1 i2 k1 => FC_c (f2.2 152 _ (by omega)).2.1 (f2.2 153 _ (by omega)).1 (t5 i q' i1 i2 k1)) (by
          rw [Nat.add_sub_cancel_left]
          exact ⟨q2.2, fun u hu => t4.2 u ((FP_B hg hab).mpr ⟨q, q1, q2.1, hu⟩)⟩) q1 (by omega) (by have := (hw.2.1 q q1).2.2.1; omega) (by unfold FU; omega)
        have F8 : Fr (fun c _ => (148 ≤ c ∧ c ≤ 153) ∨ c = 161) σ σ3 := Fr.trans t2 (Fr.tr f2 w2) (by intro c k h; omega) (by intro c k h; omega)
        have k2 : H9 σ3 w := H9_Fr F8 (fun c hc k q => by unfold inBk at hc; omega) (fun k q => by omega) (fun q => by omega) (fun q => by omega) h9
        have r8 : fX8_best 0 (nI hs) (nI a) (nI b) σ = some (lN (v / 1000000000000000000000000), σ3) := by
          have wr : fX5_writeRow 149 (some 161) σ2 = some σ3 := by
            unfold fX5_writeRow
            rw [u_fI149 f2.1, bs, (f2.2 149 7 (by omega)).1, q3, u_fI149 f2.1, bs, B2.2.2.2.1, u_kT149 f2.1, bs, trmOf hw B2 q1, b2s, nI_add, bd_, u_fI149 f2.1, bs, B2.2.2.2.1]
            exact w1
          have fr : fX8_forgetRow 0 τ = some σ2 := f1
          rw [x8, show cst (some v) = lN (v / 1000000000000000000000000) from rfl, if_neg (by rw [lm1_ne (by omega)]; exact id), u_kT0 t2.1, bs, fr, bs, u_R0_3 f2.1, bs, u_R0_7 f2.1, bs, u_kT149 f2.1, bs, wr, bs]
          rfl
        obtain ⟨r, χ, u1, u2, u3⟩ := x9 σ3 F8.1 k2
        rcases u3 with ⟨k, -⟩ | ⟨v', s, k, s1, rfl, cc, fr, s2, s3, s4, s5⟩
        · cases k
        · cases k
          have S2 := q_sI (q_sI u2.1 304 34 (nI a)) 304 35 (nI b)
          obtain ⟨σ4, y1, y2, y3, -⟩ := b67 s1 hab hb FU 0 _ S2 (Nat.zero_le _) (by unfold FU; omega)
          have d1 := cd_b (f := fr) (a := a) (n := b - a) (by omega) (fun j hj => (s4 j hj).1)
          have d2 := cd_b (f := f) (a := a) (n := b - a) (by omega) (fun j hj => (w4 (a + j) (by omega) (by omega)).1)
          obtain ⟨e3, e4⟩ := key_u (c := C) (c' := cc) (D := cd f a (b - a)) (D' := cd fr a (b - a)) (by rw [← w5, ← s5]) d2 d1
          have e5 := cd_i (f := f) (f' := fr) (a := a) (n := b - a) (by omega) (fun j hj => (w4 (a + j) (by omega) (by omega)).1) (fun j hj => (s4 j hj).1) e4
          rw [if_neg (by rw [w_1, m1_ne (by omega)]; exact id), u_pI304 u2.1, bs, u_pI304 (q_sI u2.1 _ _ _), bs] at u1
          have F9 : Fr (fun c k => (148 ≤ c ∧ c ≤ 153) ∨ c = 161 ∨ (c = 304 ∧ (k = 0 ∨ k = 34 ∨ k = 35)) ∨ (319 ≤ c ∧ c ≤ 323)) σ σ4 := Fr.tr (Fr.cI (Fr.cI (Fr.tr (Fr.cI (Fr.mono F8 (by intro c k h; omega)) (by simp)) (Fr.mono u2 (by intro c k h; unfold fr4 at h; omega))) (by simp)) (by simp)) (Fr.mono y2 (by intro c k h; omega))
          refine ⟨lN (v / 1000000000000000000000000), σ3, σ4, r8, k9 F8.1, ?_, ?_⟩
          · refine Eq.trans u1 (Eq.trans y1 ?_)
            rw [rdJI, rdJI, s3, show v / 1000000000000000000000000 = cc by omega]
          · obtain ⟨h0, h1, h2, h3, h4, h5, h6, h7, h8', h9'⟩ := h
            refine ⟨y2.1, c_tape F9 (by omega) (by omega) (by omega) (by omega) h1, c_flt F9 (by omega) (by omega) h2, c_use F9 (by omega) (by omega) h3, c_chg F9 (by omega) (by omega) h4, c_span F9 (by omega) (by omega) (by omega) (by omega) h5, ⟨a, b, by omega, hb, ?_, ?_, fun i hi => ?_⟩, c_grp F9 (by omega) (by omega) h7, c_out F9 (by omega) (by omega) (by omega) (by omega) h8', R_book_Fr F9 (by unfold inBk; intro c hc k; omega) (by omega) (by omega) (by omega) h9'⟩
            · rw [(y2.2 304 34 (by omega)).1, gI_sI2 (by decide), gI_sI1]
            · rw [(y2.2 304 35 (by omega)).1, gI_sI1]
            · have e161 : gI σ4 161 i = gI σ3 161 i := by
                rw [(y2.2 161 i (by omega)).1, gI_sI2 (by omega), gI_sI2 (by omega), (u2.2 161 i (by unfold fr4; omega)).1, gI_sI2 (by omega)]
              rw [e161]
              by_cases ci : a ≤ i ∧ i < b
              · rw [if_pos ci, y3 (i - a) (Nat.zero_le _) (by omega), gI_sI2 (by omega), gI_sI2 (by omega), (s4 (i - a) (by omega)).2, ← e5 (i - a) (by omega), show a + (i - a) = i by omega]
                exact (w4 i ci.1 ci.2).2
              · rw [if_neg ci, w3 i (by omega), f3 i (Nat.zero_le _) hi]
    · refine no ?_ ?_
      · unfold fX8_best; rw [w_1, w_15, e1, b2s, if_neg (by decide), if_neg c1, if_neg c2, if_neg c3]; rfl
      · unfold fX9_best; rw [u_pI304 hS, bs, if_neg i1, if_neg i2, if_neg c1, if_neg c2, if_neg c3]; rfl
  · refine no ?_ ?_
    · unfold fX8_best; rw [w_1, w_15, e1, b2s, if_pos (by decide)]; rfl
    · unfold fX9_best
      rw [u_pI304 hS, bs, w_1, w_15]
      by_cases q : x < nI 1
      · rw [if_pos q]; rfl
      · rw [if_neg q, if_pos (e0.resolve_left q)]; rfl
