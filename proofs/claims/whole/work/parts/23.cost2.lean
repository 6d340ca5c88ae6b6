/-! uses together, and the cost of a month -/
def tg (us : Nat → Nat) (h s m : Nat) : Nat → Nat
  | 0 => 0
  | i + 1 => tg us h s m i + if h.testBit i then us ((4 * i + s) * 24 + m) else 0
def tog (us : Nat → Nat) (h m s : Nat) : Nat := tg us h s m 4
theorem tg_le {us : Nat → Nat} (hu : ∀ i, i < 384 → us i ≤ 20000) {h s m : Nat} (hs : s < 4) (hm : m < 24) : ∀ i, i ≤ 4 → tg us h s m i ≤ i * 20000 := by
  intro i
  induction i with
  | zero => intro _; exact Nat.zero_le _
  | succ i ih =>
    intro hi
    have h1 := ih (by omega)
    have h2 := hu ((4 * i + s) * 24 + m) (by omega)
    have h3 : (if h.testBit i then us ((4 * i + s) * 24 + m) else 0) ≤ 20000 := by
      by_cases c : h.testBit i = true
      · rw [if_pos c]; exact h2
      · rw [if_neg c]; exact Nat.zero_le _
    have h4 : tg us h s m (i + 1) = tg us h s m i + (if h.testBit i then us ((4 * i + s) * 24 + m) else 0) := rfl
    rw [h4]
    exact Nat.le_trans (Nat.add_le_add h1 h3) (Nat.le_of_eq (Nat.succ_mul i 20000).symm)
theorem tog_le {us : Nat → Nat} (hu : ∀ i, i < 384 → us i ≤ 20000) {h s m : Nat} (hs : s < 4) (hm : m < 24) : tog us h m s ≤ 80000 := by
  have e := tg_le (h := h) hu hs hm 4 (Nat.le_refl _)
  exact e
set_option maxRecDepth 100000 in
theorem bit_ : ∀ h, h < 16 → ∀ i, i < 4 → ((nI h >>> (nI i &&& 31)) &&& 1) = if h.testBit i then 1 else 0 := by decide +kernel
theorem slotN {t s m : Nat} {σ : Mem} (ht : t < 4) (hs : s < 4) (hm : m < 24) : fX7_slot (nI t) (nI s) (nI m) σ = some (nI ((4 * t + s) * 24 + m), σ) := by
  unfold fX7_slot
  rw [w_0, w_3, w_23, iwN (by omega) (by decide) (by decide), if_pos (by omega), b2s, if_neg (by decide), iwN (by omega) (by decide) (by decide), if_pos (by omega), b2s, if_neg (by decide), iwN (by omega) (by decide) (by decide), if_pos (by omega), b2s, if_neg (by decide), w_4, w_24, pk_mul, nI_add, pk_mul, nI_add, Nat.mul_comm t 4]
theorem useN {σ : Mem} {us : Nat → Nat} (hS : ST σ) (hu : ∀ i, i < 384 → gI σ 147 i = nI (us i)) {t s m : Nat} (ht : t < 4) (hs : s < 4) (hm : m < 24) : fX7_at 146 (nI t) (nI s) (nI m) σ = some (nI (us ((4 * t + s) * 24 + m)), σ) := by
  unfold fX7_at
  rw [slotN ht hs hm, b2s, if_neg (by rw [w_1, m1_ne (by omega)]; exact id), u_R146_0 hS, bs, u_a147 hS (by omega), bs, hu _ (by omega)]
  rfl
theorem tgC1 {σ : Mem} {us : Nat → Nat} {h m s : Nat} {rc : Nat → Int32 → Int32 → Int32 → Mem → Option (Option Nat × Mem)} (hS : ST σ) (hu : ∀ i, i < 384 → gI σ 147 i = nI (us i)) (hh : h < 16) (hm : m < 24) (hs : s < 4) (n : Nat) : ∀ i, i ≤ 4 → 4 < i + n → fX7_together_b13 rc n 146 (nI h) (nI m) (nI s) (nI (tg us h s m i)) (nI i) σ = fX7_together_b47 rc 146 (nI h) (nI m) (nI s) (nI (tog us h m s)) σ := by
  induction n with
  | zero => intro i hi hn; omega
  | succ n ih =>
    intro i hi hn
    show (if 4 ≤ nI i then _ else _) = _
    by_cases c : i < 4
    · rw [if_neg (by rw [w_4]; exact nI_ge c (by decide)), bit_ h hh i c]
      have e : tg us h s m (i + 1) = tg us h s m i + if h.testBit i then us ((4 * i + s) * 24 + m) else 0 := rfl
      have ih1 := ih (i + 1) (by omega) (by omega)
      rw [e] at ih1
      by_cases t : h.testBit i = true
      · rw [if_pos t] at ih1 ⊢
        rw [if_neg (by decide), u_kT146 hS, bs, useN hS hu c hs hm, b2s, bd_, nI_add]
        unfold fX7_together_b41
        rw [bd_, nI_1]
        exact ih1
      · rw [if_neg t] at ih1 ⊢
        rw [if_pos rfl]
        unfold fX7_together_b41
        rw [bd_, nI_1]
        exact ih1
    · have : i = 4 := by omega
      subst this
      rw [if_pos (by decide)]
      rfl
theorem tgC2 {us : Nat → Nat} {h m : Nat} (hh : h < 16) (hm : m < 24) (n : Nat) : ∀ s σ, ST σ → (∀ i, i < 384 → gI σ 147 i = nI (us i)) → s ≤ 4 → 4 < s + n → ∃ τ, fX7_together_b2 n 146 (nI h) (nI m) (nI s) σ = some (some 148, τ) ∧ Fr (fun c _ => c = 148) σ τ ∧ (∀ i, s ≤ i → i < 4 → gI τ 148 i = nI (tog us h m i)) ∧ ∀ i, i < s → gI τ 148 i = gI σ 148 i := by
  induction n with
  | zero => intro s σ _ _ hs hn; omega
  | succ n ih =>
    intro s σ hS hu hs hn
    by_cases c : s < 4
    · have hS1 := q_sI hS 148 s (nI (tog us h m s))
      obtain ⟨τ, t1, t2, t3, t4⟩ := ih (s + 1) _ hS1 (fun i hi => (gI_sI2 (by omega)).trans (hu i hi)) (by omega) (by omega)
      refine ⟨τ, ?_, Fr.tr (Fr.cI (Fr.refl hS) rfl) t2, fun i h1 h2 => ?_, fun i hi => ?_⟩
      · show (if 4 ≤ nI s then _ else _) = _
        rw [if_neg (by rw [w_4]; exact nI_ge c (by decide)), show fX7_together_b13 (fX7_together_b2 n) FU 146 (nI h) (nI m) (nI s) 0 0 σ = _ from tgC1 hS hu hh hm c FU 0 (by omega) (by unfold FU; omega)]
        unfold fX7_together_b47
        rw [u_R146_1 hS, bs, u_w148 hS c, bs, bd_, nI_1]
        exact t1
      · by_cases e : i = s
        · subst e
          rw [t4 i (by omega), gI_sI1]
        · exact t3 i (by omega) h2
      · rw [t4 i (by omega), gI_sI2 (by omega)]
    · have : s = 4 := by omega
      subst this
      refine ⟨σ, ?_, Fr.refl hS, fun i h1 h2 => by omega, fun _ _ => rfl⟩
      show (if 4 ≤ nI 4 then fX7_together_b61 146 σ else _) = _
      rw [if_pos (by decide)]
      unfold fX7_together_b61
      rw [u_R146_1 hS, bs]
theorem tgC {σ : Mem} {us : Nat → Nat} {h m : Nat} (hS : ST σ) (hu : ∀ i, i < 384 → gI σ 147 i = nI (us i)) (hh : h < 16) (hm : m < 24) : ∃ τ, fX7_together 146 (nI h) (nI m) σ = some (some 148, τ) ∧ Fr (fun c _ => c = 148) σ τ ∧ ∀ i, i < 4 → gI τ 148 i = nI (tog us h m i) := by
  obtain ⟨τ, t1, t2, t3, -⟩ := tgC2 hh hm FU 0 σ hS hu (by omega) (by unfold FU; omega)
  exact ⟨τ, t1, t2, fun i hi => t3 i (Nat.zero_le _) hi⟩
theorem tgM1 {σ : Mem} {us : Nat → Nat} {h m s : Nat} (hS : ST σ) (hu : ∀ i, i < 384 → gI σ 318 i = nI (us i)) (hh : h < 16) (hm : m < 24) (hs : s < 4) (n : Nat) : ∀ i, i ≤ 4 → 4 < i + n → fX9_together_b6 n 304 (nI h) (nI s) (nI m) (nI (tg us h s m i)) (nI i) σ = some (nI (tog us h m s), σ) := by
  induction n with
  | zero => intro i hi hn; omega
  | succ n ih =>
    intro i hi hn
    show (if 4 ≤ nI i then _ else _) = _
    by_cases c : i < 4
    · rw [if_neg (by rw [w_4]; exact nI_ge c (by decide)), bit_ h hh i c]
      have e : tg us h s m (i + 1) = tg us h s m i + if h.testBit i then us ((4 * i + s) * 24 + m) else 0 := rfl
      have ih1 := ih (i + 1) (by omega) (by omega)
      rw [e] at ih1
      by_cases t : h.testBit i = true
      · rw [if_pos t] at ih1 ⊢
        rw [if_pos rfl, u_R304_27 hS, bs]
        unfold fX9_cell
        rw [b2s, w_4, w_24, pk_mul, nI_add, pk_mul, nI_add, u_a318 hS (by omega), bs, hu _ (by omega), bd_, nI_add]
        unfold fX9_together_b39
        rw [bd_, nI_1]
        exact ih1
      · rw [if_neg t] at ih1 ⊢
        rw [if_neg (by decide)]
        unfold fX9_together_b39
        rw [bd_, nI_1]
        exact ih1
    · have : i = 4 := by omega
      subst this
      rw [if_pos (by decide)]
      rfl
theorem tgM {σ : Mem} {us : Nat → Nat} {h m s : Nat} (hS : ST σ) (hu : ∀ i, i < 384 → gI σ 318 i = nI (us i)) (hh : h < 16) (hm : m < 24) (hs : s < 4) : fX9_together 304 (nI h) (nI s) (nI m) σ = some (nI (tog us h m s), σ) := tgM1 hS hu hh hm hs FU 0 (by omega) (by unfold FU; omega)
/-- a service's cost, a month's cost, whether a plan may be had -/
def svc (l : LD) (T : Nat → Nat) (s : Nat) : Nat := if l.2.2.2.2.1.testBit s then pco (l.2.2.2.2.2 s) (T s) else 0
def su (f : Nat → Nat) : Nat → Nat
  | 0 => 0
  | k + 1 => su f k + f k
def mco (l : LD) (T : Nat → Nat) : Nat := l.1 + su (svc l T) 4
abbrev mayT (l : LD) (T : Nat → Nat) (k : Nat) : Prop := ∀ s, s < 4 → k ≤ s → 0 < T s → l.2.2.2.2.1.testBit s = true
theorem svc_le {l : LD} (hl : okL l) {T : Nat → Nat} (hT : ∀ s, s < 4 → T s ≤ 80000) {s : Nat} (hs : s < 4) : svc l T s ≤ 799920000 := by
  unfold svc
  split
  · rename_i c
    have h1 := pco_le (hl.2.2.2.2.2.2 s hs c) (T s)
    have h2 := hT s hs
    omega
  · omega
theorem mco_le {l : LD} (hl : okL l) {T : Nat → Nat} (hT : ∀ s, s < 4 → T s ≤ 80000) : mco l T ≤ 3200679999 := by
  have h1 := svc_le hl hT (s := 0) (by decide)
  have h2 := svc_le hl hT (s := 1) (by decide)
  have h3 := svc_le hl hT (s := 2) (by decide)
  have h4 := svc_le hl hT (s := 3) (by decide)
  have h5 := hl.1
  unfold mco
  show l.1 + (0 + svc l T 0 + svc l T 1 + svc l T 2 + svc l T 3) ≤ _
  omega
theorem pFor {σ : Mem} {b p s : Nat} {l : LD} (hS : ST σ) (hb : isB b) (hp : p < 10) (hs : s < 4) (hl : okL l) (h : HL8 σ b p l) : fX2_partFor (Pl b p) (nI s) σ = some (if l.2.2.2.2.1.testBit s then some (Pt b p s) else none, σ) := by
  unfold fX2_partFor
  rw [w_0, w_3, iwN (by omega) (by decide) (by decide), if_pos (by omega), b2s, if_neg (by decide), v_fIP hS hb hp, bs, h.2.2.2.2.1, bit_ _ hl.2.2.2.2.2.1 s hs]
  by_cases t : l.2.2.2.2.1.testBit s = true
  · rw [if_pos t, if_pos t, if_neg (by decide), v_RP hS hb hp, bs, v_aP hS hb hp hs, bs]
  · rw [if_neg t, if_neg t, if_pos (by decide)]
    rfl
theorem pCts {σ : Mem} {b p s : Nat} {l : LD} {T : Nat → Nat} (hS : ST σ) (hb : isB b) (hp : p < 10) (hs : s < 4) (hl : okL l) (h : HL8 σ b p l) (hT : ∀ i, i < 4 → gI σ 148 i = nI (T i)) (hT2 : ∀ s, s < 4 → T s ≤ 80000) : fX2_partCents (Pl b p) (some 148) (nI s) σ = some (lN (svc l T s), σ) := by
  unfold fX2_partCents svc
  rw [v_kTP hS hb hp, bs, pFor hS hb hp hs hl h, b2s]
  by_cases t : l.2.2.2.2.1.testBit s = true
  · rw [if_pos t, if_pos t, if_neg (by simp), u_l148 hS, bs, if_pos (nI_lt hs (by decide)), u_a148 hS hs, bs, hT s hs, v_kTT hS hb hp hs, bs, cF hS hb hp hs (hl.2.2.2.2.2.2 s hs t) (h.2.2.2.2.2 s hs t) (hT2 s hs), b2s]
    rfl
  · rw [if_neg t, if_neg t, if_pos (by decide)]
    rfl
theorem mCts1 {σ : Mem} {b p : Nat} {l : LD} {T : Nat → Nat} (hS : ST σ) (hb : isB b) (hp : p < 10) (hl : okL l) (h : HL8 σ b p l) (hT : ∀ i, i < 4 → gI σ 148 i = nI (T i)) (hT2 : ∀ s, s < 4 → T s ≤ 80000) (n : Nat) : ∀ k, k ≤ 4 → 4 < k + n → fX2_monthCents_b9 n (Pl b p) (some 148) (lN (l.1 + su (svc l T) k)) (nI k) σ = some (if mayT l T k then lN (mco l T) else -1, σ) := by
  induction n with
  | zero => intro i hi hn; omega
  | succ n ih =>
    intro k hk hn
    show (if 4 ≤ nI k then _ else _) = _
    by_cases c : k < 4
    · have nx : fX2_monthCents_b42 (fX2_monthCents_b9 n) (Pl b p) (some 148) (lN (l.1 + su (svc l T) k)) (nI k) σ = some (if mayT l T (k + 1) then lN (mco l T) else -1, σ) := by
        unfold fX2_monthCents_b42
        rw [v_kTP hS hb hp, bs, pCts hS hb hp c hl h hT hT2, b2s, bd_, bd_, lN_add, nI_1, Nat.add_assoc]
        exact ih (k + 1) (by omega) (by omega)
      rw [if_neg (by rw [w_4]; exact nI_ge c (by decide)), u_l148 hS, bs, if_neg (nI_ge c (by decide)), u_a148 hS c, bs, hT k c]
      have hk2 := hT2 k c
      by_cases c2 : T k ≤ 0
      · rw [if_pos (by rw [w_0]; exact nI_le c2 (by decide)), nx]
        by_cases c3 : mayT l T (k + 1)
        · rw [if_pos c3, if_pos]
          intro s h1 h2 h3
          by_cases e : s = k
          · subst e; omega
          · exact c3 s h1 (by omega) h3
        · rw [if_neg c3, if_neg]
          exact fun q => c3 (fun s h1 h2 h3 => q s h1 (by omega) h3)
      · rw [if_neg (by rw [w_0]; exact nI_ge (by omega) (by omega)), v_kTP hS hb hp, bs, pFor hS hb hp c hl h, b2s]
        by_cases t : l.2.2.2.2.1.testBit k = true
        · rw [if_pos t, if_neg (by simp), nx]
          by_cases c3 : mayT l T (k + 1)
          · rw [if_pos c3, if_pos]
            intro s h1 h2 h3
            by_cases e : s = k
            · subst e; exact t
            · exact c3 s h1 (by omega) h3
          · rw [if_neg c3, if_neg]
            exact fun q => c3 (fun s h1 h2 h3 => q s h1 (by omega) h3)
        · rw [if_neg t, if_pos rfl, if_neg]
          exact fun q => t (q k c (Nat.le_refl _) (by omega))
    · have : k = 4 := by omega
      subst this
      rw [if_pos (by decide), if_pos (fun s h1 h2 => by omega)]
      rfl
theorem mCts {σ : Mem} {b p : Nat} {l : LD} {T : Nat → Nat} (hS : ST σ) (hb : isB b) (hp : p < 10) (hl : okL l) (h : HL8 σ b p l) (hT : ∀ i, i < 4 → gI σ 148 i = nI (T i)) (hT2 : ∀ s, s < 4 → T s ≤ 80000) : fX2_monthCents (Pl b p) (some 148) σ = some (if mayT l T 0 then lN (mco l T) else -1, σ) := by
  unfold fX2_monthCents
  rw [v_fIP hS hb hp, bs, h.1, nI_l (by have := hl.1; omega), bd_]
  exact mCts1 hS hb hp hl h hT hT2 FU 0 (by omega) (by unfold FU; omega)
/-- the reference's -/
theorem sCost {σ : Mem} {w : WD} {p h m s : Nat} (hS : ST σ) (hw : okW w) (h9 : H9 σ w) (hp : p < w.1) (hh : h < 16) (hm : m < 24) (hs : s < 4) : fX9_serviceCost 304 (nI p) (nI h) (nI s) (nI m) σ = some (lN (svc (w.2.1 p) (tog w.2.2.1 h m) s), σ) := by
  have hP := hw.1
  obtain ⟨g1, g2⟩ := (h9.2.1 p hp).2.2.2.2 s hs
  unfold fX9_serviceCost svc
  rw [u_R304_16 hS, bs, w_4, pk_mul, nI_add, u_a311 hS (by omega), bs, g1]
  by_cases t : (w.2.1 p).2.2.2.2.1.testBit s = true
  · rw [if_pos t, if_pos t, if_neg (by decide), u_kT304 hS, bs, tgM hS h9.2.2.1 hh hm hs, b2s, u_kT304 hS, bs, pC hS (by omega) ((hw.2.1 p hp).2.2.2.2.2.2 s hs t) (g2 t) (tog_le hw.2.2.1 hs hm), b2s]
    rfl
  · rw [if_neg t, if_neg t, if_pos (by decide)]
    rfl
theorem mCost1 {σ : Mem} {w : WD} {p h m : Nat} (hS : ST σ) (hw : okW w) (h9 : H9 σ w) (hp : p < w.1) (hh : h < 16) (hm : m < 24) (n : Nat) : ∀ k, k ≤ 4 → 4 < k + n → fX9_monthCost_b12 n 304 (nI p) (nI h) (nI m) (lN ((w.2.1 p).1 + su (svc (w.2.1 p) (tog w.2.2.1 h m)) k)) (nI k) σ = some (lN (mco (w.2.1 p) (tog w.2.2.1 h m)), σ) := by
  induction n with
  | zero => intro i hi hn; omega
  | succ n ih =>
    intro k hk hn
    show (if 4 ≤ nI k then _ else _) = _
    by_cases c : k < 4
    · rw [if_neg (by rw [w_4]; exact nI_ge c (by decide)), u_kT304 hS, bs, sCost hS hw h9 hp hh hm c, b2s, bd_, lN_add, bd_, nI_1, Nat.add_assoc]
      exact ih (k + 1) (by omega) (by omega)
    · have : k = 4 := by omega
      subst this
      rw [if_pos (by decide)]
      rfl
theorem mCost {σ : Mem} {w : WD} {p h m : Nat} (hS : ST σ) (hw : okW w) (h9 : H9 σ w) (hp : p < w.1) (hh : h < 16) (hm : m < 24) : fX9_monthCost 304 (nI p) (nI h) (nI m) σ = some (lN (mco (w.2.1 p) (tog w.2.2.1 h m)), σ) := by
  have hP := hw.1
  unfold fX9_monthCost
  rw [u_R304_12 hS, bs, u_a307 hS (by omega), bs, (h9.2.1 p hp).1, nI_l (by have := (hw.2.1 p hp).1; omega), bd_]
  exact mCost1 hS hw h9 hp hh hm FU 0 (by omega) (by unfold FU; omega)
theorem mHave1 {σ : Mem} {w : WD} {p h m : Nat} (hS : ST σ) (hw : okW w) (h9 : H9 σ w) (hp : p < w.1) (hh : h < 16) (hm : m < 24) (n : Nat) : ∀ k, k ≤ 4 → 4 < k + n → fX9_mayHave_b3 n 304 (nI p) (nI h) (nI m) (nI k) σ = some (if mayT (w.2.1 p) (tog w.2.2.1 h m) k then 1 else 0, σ) := by
  have hP := hw.1
  induction n with
  | zero => intro i hi hn; omega
  | succ n ih =>
    intro k hk hn
    show (if 4 ≤ nI k then _ else _) = _
    by_cases c : k < 4
    · have nx : fX9_mayHave_b36 (fX9_mayHave_b3 n) 304 (nI p) (nI h) (nI m) (nI k) σ = some (if mayT (w.2.1 p) (tog w.2.2.1 h m) (k + 1) then 1 else 0, σ) := by
        unfold fX9_mayHave_b36
        rw [bd_, nI_1]
        exact ih (k + 1) (by omega) (by omega)
      have hk2 := tog_le hw.2.2.1 (h := h) c hm
      rw [if_neg (by rw [w_4]; exact nI_ge c (by decide)), u_R304_16 hS, bs, w_4, pk_mul, nI_add, u_a311 hS (by omega), bs, ((h9.2.1 p hp).2.2.2.2 k c).1]
      by_cases t : (w.2.1 p).2.2.2.2.1.testBit k = true
      · rw [if_pos t, if_neg (by decide), nx]
        by_cases c3 : mayT (w.2.1 p) (tog w.2.2.1 h m) (k + 1)
        · rw [if_pos c3, if_pos]
          intro s h1 h2 h3
          by_cases e : s = k
          · subst e; exact t
          · exact c3 s h1 (by omega) h3
        · rw [if_neg c3, if_neg]
          exact fun q => c3 (fun s h1 h2 h3 => q s h1 (by omega) h3)
      · rw [if_neg t, if_pos rfl, u_kT304 hS, bs, tgM hS h9.2.2.1 hh hm c, b2s]
        by_cases c2 : tog w.2.2.1 h m k ≤ 0
        · rw [if_pos (by rw [w_0]; exact nI_le c2 (by decide)), nx]
          by_cases c3 : mayT (w.2.1 p) (tog w.2.2.1 h m) (k + 1)
          · rw [if_pos c3, if_pos]
            intro s h1 h2 h3
            by_cases e : s = k
            · subst e; omega
            · exact c3 s h1 (by omega) h3
          · rw [if_neg c3, if_neg]
            exact fun q => c3 (fun s h1 h2 h3 => q s h1 (by omega) h3)
        · rw [if_neg (by rw [w_0]; exact nI_ge (by omega) (by omega)), if_neg]
          exact fun q => t (q k c (Nat.le_refl _) (by omega))
    · have : k = 4 := by omega
      subst this
      rw [if_pos (by decide), if_pos (fun s h1 h2 => by omega)]
      rfl
theorem mHave {σ : Mem} {w : WD} {p h m : Nat} (hS : ST σ) (hw : okW w) (h9 : H9 σ w) (hp : p < w.1) (hh : h < 16) (hm : m < 24) : fX9_mayHave 304 (nI p) (nI h) (nI m) σ = some (if mayT (w.2.1 p) (tog w.2.2.1 h m) 0 then 1 else 0, σ) := mHave1 hS hw h9 hp hh hm FU 0 (by omega) (by unfold FU; omega)
/-! cost and bill -/
theorem cOf {σ : Mem} {b : Nat} {w : WD} {p h m x : Nat} (hS : ST σ) (hw : okW w) (h8 : H8 σ b w) (hb : gR σ 0 8 = some b) (hp : p < w.1) (hh1 : 1 ≤ h) (hh : h < 16) (hm : m < 24) (hx : x ≤ 5) : ∃ τ, fX8_centsOf 0 (nI p) (nI h) (nI m) (nI x) σ = some (if mayT (w.2.1 p) (tog w.2.2.1 h m) 0 then lN (if x = 0 then mco (w.2.1 p) (tog w.2.2.1 h m) else if x = 1 then (w.2.1 p).1 else svc (w.2.1 p) (tog w.2.2.1 h m) (x - 2)) else -1, τ) ∧ Fr (fun c _ => c = 148) σ τ := by
  have hP := hw.1
  obtain ⟨a1, a2, a3, a4, a5⟩ := h8
  have hl := hw.2.1 p hp
  have hT2 : ∀ s, s < 4 → tog w.2.2.1 h m s ≤ 80000 := fun s hs => tog_le hw.2.2.1 hs hm
  obtain ⟨τ, t1, t2, t3⟩ := tgC hS a4 hh hm
  have hL := HL8_fr a1 (by omega) (fun c hc => t2.eI (fun k => by have : c ≠ 148 := nBk hc (by simp [inBk]); simpa using this)) (a3 p hp)
  refine ⟨τ, ?_, t2⟩
  unfold fX8_centsOf
  rw [u_R0_8 hS, bs, hb, v_kTB hS a1, bs, atP hS a1 hP a2 hp, b2s, if_neg (by simp), w_1, w_15, iwN (by omega) (by decide) (by decide), if_pos (by omega), b2s, if_neg (by decide), w_0, w_23, iwN (by omega) (by decide) (by decide), if_pos (by omega), b2s, if_neg (by decide), w_5, iwN (by omega) (by decide) (by decide), if_pos (by omega), b2s, if_neg (by decide), u_R0_2 hS, bs, u_kT146 hS, bs, t1, b2s, v_kTP t2.1 a1 (by omega), bs, mCts t2.1 a1 (by omega) hl hL t3 hT2, b2s]
  by_cases c : mayT (w.2.1 p) (tog w.2.2.1 h m) 0
  · rw [if_pos c, if_pos c]
    have hmc := mco_le hl hT2
    rw [if_neg (by rw [lm1_ne (by omega)]; exact id)]
    by_cases x0 : x = 0
    · rw [if_pos (by rw [x0]), if_pos x0]
      rfl
    · rw [if_neg (by rw [nI_eq (by omega) (by decide)]; exact x0), if_neg x0]
      by_cases x1 : x = 1
      · rw [if_pos (by rw [x1]), if_pos x1, v_fIP t2.1 a1 (by omega), bs, hL.1, nI_l (by have := hl.1; omega)]
        rfl
      · rw [if_neg (by rw [nI_eq (by omega) (by decide)]; exact x1), if_neg x1, v_kTP t2.1 a1 (by omega), bs, w_2, pk_sub (by omega), pCts t2.1 a1 (by omega) (by omega) hl hL t3 hT2, b2s]
        rfl
  · rw [if_neg c, if_neg c, if_pos rfl]
    rfl
theorem Rel_148 {σ τ : Mem} (F : Fr (fun c _ => c = 148) σ τ) (h : Rel σ) : Rel τ := Rel_Fr F (by rintro c k rfl; unfold rl inBk; omega) h
theorem op_cost (a b c d : Int32) : OpXL Rel (fX8_cost 0 a b c d) (fX9_cost 304 a b c d) := by
  intro σ h
  have hS := h.1
  obtain ⟨B, w, hw, h8, h9, hB⟩ := wd_of h
  have hP := hw.1
  have rf (τ : Mem) (k : ST τ) : fX9_cost_b49 304 τ = some (0, sI τ 304 0 1) := by
    unfold fX9_cost_b49 fX9_refuse
    rw [u_kT304 k, bs, u_pI304 k, bs, b2s]
    rfl
  have no (k : fX8_centsOf 0 a b c d σ = some (-1, σ)) (k2 : fX9_cost 304 a b c d σ = some (0, sI σ 304 0 1)) : ∃ r σ1 b' σ2, fX8_cost 0 a b c d σ = some (r, σ1) ∧ kd σ1 330 = 12 ∧ gL σ1 330 = 1 ∧ kd (outL r σ1) 304 = 9 ∧ fX9_cost 304 a b c d (outL r σ1) = some (b', σ2) ∧ kd σ2 304 = 9 ∧ gI σ2 304 0 = kof r ∧ kd σ2 330 = 12 ∧ gL σ2 330 = 1 ∧ (kof r = 0 → gJ σ2 330 0 = b') ∧ Rel σ2 := by
    refine XL_no h (b := 0) ?_ k2
    unfold fX8_cost
    rw [u_kT0 hS, bs, k, b2s, if_pos rfl]
  by_cases hx : ∃ p, p < w.1 ∧ a = nI p
  · obtain ⟨p, hp, rfl⟩ := hx
    have at8 : ∀ f : Option Nat → Mem → Option (Int64 × Mem), ((fR σ 8 8 (some 0)).bind fun t1 => (kT σ 3 t1).bind fun k2 => b2 (fX3_at k2 (nI p) σ) f) = f (some (Pl B p)) σ := by
      intro f
      rw [u_R0_8 hS, bs, hB, v_kTB hS h8.1, bs, atP hS h8.1 hP h8.2.1 hp, b2s]
    rcases iw (x := b) (σ := σ) (a := 1) (b := 15) (by decide) (by decide) with ⟨x, x1, x2, rfl, e1⟩ | ⟨e0, e1⟩
    · rcases inC c (n := 24) (by decide) (by decide) with ⟨m, hm, rfl, w1, w2⟩ | ⟨-, w1, w2⟩
      · rcases iw (x := d) (σ := σ) (a := 0) (b := 5) (by decide) (by decide) with ⟨y, y1, y2, rfl, e2⟩ | ⟨e3, e2⟩
        · obtain ⟨τ, t1, t2⟩ := cOf hS hw h8 hB hp x1 (by omega) hm y2
          have hT2 : ∀ s, s < 4 → tog w.2.2.1 x m s ≤ 80000 := fun s hs => tog_le hw.2.2.1 hs hm
          have hl := hw.2.1 p hp
          have pre (υ : Mem) (k1 : ST υ) (k2 : H9 υ w) : fX9_cost 304 (nI p) (nI x) (nI m) (nI y) υ = if mayT (w.2.1 p) (tog w.2.2.1 x m) 0 then some (lN (if y = 0 then mco (w.2.1 p) (tog w.2.2.1 x m) else if y = 1 then (w.2.1 p).1 else svc (w.2.1 p) (tog w.2.2.1 x m) (y - 2)), sI υ 304 0 0) else some (0, sI υ 304 0 1) := by
            have k3 := q_sI k1 304 0 0
            have k4 : H9 (sI υ 304 0 0) w := H9_fr (fun c hc => gI_sI_n (nBk hc (by simp [inBk]))) (gI_sI_n (by decide)) (gI_sI2 (by decide)) (gI_sI2 (by decide)) k2
            unfold fX9_cost
            rw [u_kT304 k1, bs, isP1 k1 hP k2.1 hp, b2s, if_neg (by decide), w_1, if_neg (nI_nlt (by omega) (by omega)), w_15, if_neg (nI_nlt (by omega) (by decide)), w_24, w1, b2s, if_neg (by decide), if_neg (nI_pos (by omega)), w_5, if_neg (nI_nlt (by omega) (by decide)), u_kT304 k1, bs, mHave k1 hw k2 hp (by omega) hm, b2s]
            by_cases cm : mayT (w.2.1 p) (tog w.2.2.1 x m) 0
            · rw [if_pos cm, if_pos cm, if_neg (by decide), u_pI304 k1, bs]
              by_cases y0 : y = 0
              · rw [if_pos (by rw [y0]; rfl), if_pos y0, u_kT304 k3, bs, mCost k3 hw k4 hp (by omega) hm, b2s]
                rfl
              · rw [if_neg (by rw [w_0, nI_eq (by omega) (by decide)]; exact y0), if_neg y0]
                by_cases y1 : y = 1
                · rw [if_pos (by rw [y1]), if_pos y1, u_R304_12 k3, bs, u_a307 k3 (by omega), bs, (k4.2.1 p hp).1, nI_l (by have := hl.1; omega)]
                  rfl
                · rw [if_neg (by rw [nI_eq (by omega) (by decide)]; exact y1), if_neg y1, u_kT304 k3, bs, w_2, pk_sub (by omega), sCost k3 hw k4 hp (by omega) hm (by omega), b2s]
                  rfl
            · rw [if_neg cm, if_neg cm, if_pos rfl, rf υ k1]; try rfl
          by_cases cm : mayT (w.2.1 p) (tog w.2.2.1 x m) 0
          · rw [if_pos cm] at t1
            refine XL_yes (Rel_148 t2 h) (v := lN (if y = 0 then mco (w.2.1 p) (tog w.2.2.1 x m) else if y = 1 then (w.2.1 p).1 else svc (w.2.1 p) (tog w.2.2.1 x m) (y - 2))) ?_ ?_
            · unfold fX8_cost
              rw [u_kT0 hS, bs, t1, b2s, if_neg]
              rw [lm1_ne]
              · exact id
              · have q1 := mco_le hl hT2
                have q2 := hl.1
                split
                · omega
                · split
                  · omega
                  · have := svc_le hl hT2 (s := y - 2) (by omega)
                    omega
            · rw [pre _ (q_sJ t2.1 _ _ _) (H9_fr (fun c hc => by rw [gI_sJ]; exact t2.eI (fun k => nBk hc (by simp [inBk]))) (by rw [gI_sJ]; exact t2.eI (by simp)) (by rw [gI_sJ]; exact (t2.2 304 22 (by simp)).1) (by rw [gI_sJ]; exact (t2.2 304 28 (by simp)).1) h9), if_pos cm]
          · rw [if_neg cm] at t1
            refine XL_no (Rel_148 t2 h) (b := 0) ?_ ?_
            · unfold fX8_cost
              rw [u_kT0 hS, bs, t1, b2s, if_pos rfl]
            · rw [pre _ t2.1 (H9_Fr t2 (fun c hc k => nBk hc (by simp [inBk])) (by simp) (by simp) (by simp) h9), if_neg cm]
        · refine no ?_ ?_
          · unfold fX8_centsOf
            rw [at8, if_neg (by simp), w_1, w_15, e1, b2s, if_neg (by decide), w_0, w_23, w2, b2s, if_neg (by decide), w_5, e2, b2s, if_pos (by decide)]
            rfl
          · unfold fX9_cost
            rw [u_kT304 hS, bs, isP1 hS hP h9.1 hp, b2s, if_neg (by decide), w_1, if_neg (nI_nlt (by omega) (by omega)), w_15, if_neg (nI_nlt (by omega) (by decide)), w_24, w1, b2s, if_neg (by decide), w_0, w_5]
            by_cases q : d < nI 0
            · rw [if_pos q, rf σ hS]; try rfl
            · rw [if_neg q, if_pos (e3.resolve_left q), rf σ hS]; try rfl
      · refine no ?_ ?_
        · unfold fX8_centsOf
          rw [at8, if_neg (by simp), w_1, w_15, e1, b2s, if_neg (by decide), w_0, w_23, w2, b2s, if_pos (by decide)]
          rfl
        · unfold fX9_cost
          rw [u_kT304 hS, bs, isP1 hS hP h9.1 hp, b2s, if_neg (by decide), w_1, if_neg (nI_nlt (by omega) (by omega)), w_15, if_neg (nI_nlt (by omega) (by decide)), w_24, w1, b2s, if_pos rfl, rf σ hS]; try rfl
    · refine no ?_ ?_
      · unfold fX8_centsOf
        rw [at8, if_neg (by simp), w_1, w_15, e1, b2s, if_pos (by decide)]
        rfl
      · unfold fX9_cost
        rw [u_kT304 hS, bs, isP1 hS hP h9.1 hp, b2s, if_neg (by decide), w_1, w_15]
        by_cases q : b < nI 1
        · rw [if_pos q, rf σ hS]; try rfl
        · rw [if_neg q, if_pos (e0.resolve_left q), rf σ hS]; try rfl
  · refine no ?_ ?_
    · unfold fX8_centsOf
      rw [u_R0_8 hS, bs, hB, v_kTB hS h8.1, bs, atN hS h8.1 hP h8.2.1 hx, b2s, if_pos rfl]
      rfl
    · unfold fX9_cost
      rw [u_kT304 hS, bs, isP0 hS hP h9.1 hx, b2s, if_pos rfl, rf σ hS]; try rfl
theorem sh1_ : ∀ t, t < 4 → (1 : Int32) <<< (nI t &&& 31) = nI (2 ^ t) := by decide
theorem p2_ : ∀ t, t < 4 → 1 ≤ 2 ^ t ∧ 2 ^ t < 16 := by decide
theorem op_bill (a b c : Int32) (d : Int64) : OpXL Rel (fX8_bill 0 a b c d) (fX9_bill 304 a b c d) := by
  intro σ h
  have hS := h.1
  obtain ⟨B, w, hw, h8, h9, hB⟩ := wd_of h
  have hP := hw.1
  have rf (τ : Mem) (k : ST τ) : fX9_bill_b37 304 τ = some (0, sI τ 304 0 1) := by
    unfold fX9_bill_b37 fX9_refuse
    rw [u_kT304 k, bs, u_pI304 k, bs, b2s]
    rfl
  rcases inC b (n := 4) (by decide) (by decide) with ⟨t, ht, rfl, v1, v2⟩ | ⟨-, v1, v2⟩
  · obtain ⟨p1, p2⟩ := p2_ t ht
    have b8 (υ : Mem) : fX8_bill 0 a (nI t) c d υ = (kT υ 8 (some 0)).bind fun k4 => b2 (fX8_centsOf k4 a (nI (2 ^ t)) c 0 υ) fun t5 m6 => fX8_bill_b25 d t5 m6 := by
      unfold fX8_bill
      rw [w_0, w_3, v2, b2s, if_neg (by decide), sh1_ t ht]
    have no (k : fX8_centsOf 0 a (nI (2 ^ t)) c 0 σ = some (-1, σ)) (k2 : fX9_bill 304 a (nI t) c d σ = some (0, sI σ 304 0 1)) : ∃ r σ1 b' σ2, fX8_bill 0 a (nI t) c d σ = some (r, σ1) ∧ kd σ1 330 = 12 ∧ gL σ1 330 = 1 ∧ kd (outL r σ1) 304 = 9 ∧ fX9_bill 304 a (nI t) c d (outL r σ1) = some (b', σ2) ∧ kd σ2 304 = 9 ∧ gI σ2 304 0 = kof r ∧ kd σ2 330 = 12 ∧ gL σ2 330 = 1 ∧ (kof r = 0 → gJ σ2 330 0 = b') ∧ Rel σ2 := by
      refine XL_no h (b := 0) ?_ k2
      rw [b8, u_kT0 hS, bs, k, b2s]
      unfold fX8_bill_b25
      rw [if_pos rfl]
    by_cases hx : ∃ p, p < w.1 ∧ a = nI p
    · obtain ⟨p, hp, rfl⟩ := hx
      have hl := hw.2.1 p hp
      rcases inC c (n := 24) (by decide) (by decide) with ⟨m, hm, rfl, w1, w2⟩ | ⟨-, w1, w2⟩
      · obtain ⟨τ, t1, t2⟩ := cOf (x := 0) hS hw h8 hB hp p1 p2 hm (by decide)
        have hT2 : ∀ s, s < 4 → tog w.2.2.1 (2 ^ t) m s ≤ 80000 := fun s hs => tog_le hw.2.2.1 hs hm
        have pre (υ : Mem) (k1 : ST υ) (k2 : H9 υ w) : fX9_bill 304 (nI p) (nI t) (nI m) d υ = if mayT (w.2.1 p) (tog w.2.2.1 (2 ^ t) m) 0 then some (d - lN (mco (w.2.1 p) (tog w.2.2.1 (2 ^ t) m)), sI υ 304 0 0) else some (0, sI υ 304 0 1) := by
          have k3 := q_sI k1 304 0 0
          have k4 : H9 (sI υ 304 0 0) w := H9_fr (fun c hc => gI_sI_n (nBk hc (by simp [inBk]))) (gI_sI_n (by decide)) (gI_sI2 (by decide)) (gI_sI2 (by decide)) k2
          unfold fX9_bill
          rw [u_kT304 k1, bs, isP1 k1 hP k2.1 hp, b2s, if_neg (by decide), w_4, v1, b2s, if_neg (by decide), w_24, w1, b2s, if_neg (by decide), u_kT304 k1, bs, sh1_ t ht, mHave k1 hw k2 hp p2 hm, b2s]
          by_cases cm : mayT (w.2.1 p) (tog w.2.2.1 (2 ^ t) m) 0
          · rw [if_pos cm, if_pos cm, if_neg (by decide), u_pI304 k1, bs, u_kT304 k3, bs, mCost k3 hw k4 hp p2 hm, b2s]
          · rw [if_neg cm, if_neg cm, if_pos rfl, rf υ k1]; try rfl
        by_cases cm : mayT (w.2.1 p) (tog w.2.2.1 (2 ^ t) m) 0
        · rw [if_pos cm, if_pos rfl] at t1
          refine XL_yes (Rel_148 t2 h) (v := d - lN (mco (w.2.1 p) (tog w.2.2.1 (2 ^ t) m))) ?_ ?_
          · rw [b8, u_kT0 hS, bs, w_0, t1, b2s]
            unfold fX8_bill_b25
            rw [if_neg (by rw [lm1_ne (by have := mco_le hl hT2; omega)]; exact id)]
          · rw [pre _ (q_sJ t2.1 _ _ _) (H9_fr (fun c hc => by rw [gI_sJ]; exact t2.eI (fun k => nBk hc (by simp [inBk]))) (by rw [gI_sJ]; exact t2.eI (by simp)) (by rw [gI_sJ]; exact (t2.2 304 22 (by simp)).1) (by rw [gI_sJ]; exact (t2.2 304 28 (by simp)).1) h9), if_pos cm]
        · rw [if_neg cm] at t1
          refine XL_no (Rel_148 t2 h) (b := 0) ?_ ?_
          · rw [b8, u_kT0 hS, bs, w_0, t1, b2s]
            unfold fX8_bill_b25
            rw [if_pos rfl]
          · rw [pre _ t2.1 (H9_Fr t2 (fun c hc k => nBk hc (by simp [inBk])) (by simp) (by simp) (by simp) h9), if_neg cm]
      · refine no ?_ ?_
        · unfold fX8_centsOf
          rw [u_R0_8 hS, bs, hB, v_kTB hS h8.1, bs, atP hS h8.1 hP h8.2.1 hp, b2s, if_neg (by simp), w_1, w_15, iwN (by omega) (by decide) (by decide), if_pos (by omega), b2s, if_neg (by decide), w_0, w_23, w2, b2s, if_pos (by decide)]
          rfl
        · unfold fX9_bill
          rw [u_kT304 hS, bs, isP1 hS hP h9.1 hp, b2s, if_neg (by decide), w_4, v1, b2s, if_neg (by decide), w_24, w1, b2s, if_pos rfl, rf σ hS]; try rfl
    · refine no ?_ ?_
      · unfold fX8_centsOf
        rw [u_R0_8 hS, bs, hB, v_kTB hS h8.1, bs, atN hS h8.1 hP h8.2.1 hx, b2s, if_pos rfl]
        rfl
      · unfold fX9_bill
        rw [u_kT304 hS, bs, isP0 hS hP h9.1 hx, b2s, if_pos rfl, rf σ hS]; try rfl
  · refine XL_no h (b := 0) ?_ ?_
    · unfold fX8_bill
      rw [w_0, w_3, v2, b2s, if_pos (by decide)]
      unfold fX8_bill_b25
      rw [if_pos rfl]
    · unfold fX9_bill
      by_cases hx : ∃ p, p < w.1 ∧ a = nI p
      · obtain ⟨p, hp, rfl⟩ := hx
        rw [u_kT304 hS, bs, isP1 hS hP h9.1 hp, b2s, if_neg (by decide), w_4, v1, b2s, if_pos rfl, rf σ hS]; try rfl
      · rw [u_kT304 hS, bs, isP0 hS hP h9.1 hx, b2s, if_pos rfl, rf σ hS]; try rfl
