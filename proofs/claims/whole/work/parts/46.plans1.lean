/-! the reference's plans are moved to their place -/
theorem cp200 {rc47 : Nat → Int32 → Mem → Option (Int32 × Mem)} {rc122 : Nat → Int32 → Int32 → Int32 → Mem → Option (Int32 × Mem)} {x1 x2 x3 : Int32} {k1 k2 : Nat} (h1 : k1 < 40) (h2 : 40 ≤ k2) (h3 : k2 < 80) (N : Nat) : ∀ i σ, ST σ → i ≤ 3 → 3 < i + N → ∃ υ, fX9_plans_b200 rc47 rc122 N 304 x1 x2 x3 (nI k1) (nI k2) (nI i) σ = fX9_plans_b260 rc47 rc122 304 x1 x2 x3 υ ∧ Fr (fun c k => (c = 314 ∨ c = 315) ∧ 3 * k1 + i ≤ k ∧ k < 3 * k1 + 3) σ υ ∧ ∀ j, i ≤ j → j < 3 → gI υ 314 (3 * k1 + j) = gI σ 314 (3 * k2 + j) ∧ gI υ 315 (3 * k1 + j) = gI σ 315 (3 * k2 + j) := by
  induction N with
  | zero => intro i σ _ _ hn; omega
  | succ N ih =>
    intro i σ hS hi hn
    rw [fX9_plans_b200]
    by_cases c : i < 3
    · obtain ⟨σ1, d1⟩ : ∃ x, x = sI σ 314 (3 * k1 + i) (gI σ 314 (3 * k2 + i)) := ⟨_, rfl⟩
      have S1 : ST σ1 := by rw [d1]; exact q_sI hS _ _ _
      obtain ⟨σ2, d2⟩ : ∃ x, x = sI σ1 315 (3 * k1 + i) (gI σ1 315 (3 * k2 + i)) := ⟨_, rfl⟩
      have S2 : ST σ2 := by rw [d2]; exact q_sI S1 _ _ _
      have F2 : Fr (fun c k => (c = 314 ∨ c = 315) ∧ k = 3 * k1 + i) σ σ2 := by
        rw [d2, d1]
        exact Fr.cI (Fr.cI (Fr.refl hS) (by omega)) (by omega)
      obtain ⟨υ, u1, u2, u3⟩ := ih (i + 1) σ2 S2 (by omega) (by omega)
      refine ⟨υ, ?_, Fr.trans F2 u2 (by intro c k h; omega) (by intro c k h; omega), fun j j1 j2 => ?_⟩
      · rw [w_3, if_neg (nI_ge c (by decide)), u_R304_19 hS, bs, bs, pk_mul, pk_mul, nI_add, nI_add, u_a314 hS (by omega), bs, u_w314 hS (by omega), bs, ← d1, u_R304_20 S1, bs, bs, u_a315 S1 (by omega), bs, u_w315 S1 (by omega), bs, ← d2, bd_, nI_1]
        exact u1
      · by_cases e : j = i
        · subst e
          rw [(u2.2 314 _ (by omega)).1, (u2.2 315 _ (by omega)).1]
          constructor
          · rw [d2, gI_sI2 (by omega), d1, gI_sI1]
          · rw [d2, gI_sI1, d1, gI_sI2 (by omega)]
        · obtain ⟨y1, y2⟩ := u3 j (by omega) j2
          exact ⟨y1.trans (F2.2 314 _ (by omega)).1, y2.trans (F2.2 315 _ (by omega)).1⟩
    · have : i = 3 := by omega
      subst this
      rw [if_pos (by decide)]
      exact ⟨σ, rfl, Fr.refl hS, fun j j1 j2 => by omega⟩
def cpy (σ υ : Mem) (k1 k2 : Nat) : Prop := gI υ 311 k1 = vp_nar .boolean (gI σ 311 k2) ∧ gI υ 312 k1 = gI σ 312 k2 ∧ gI υ 313 k1 = gI σ 313 k2 ∧ gI υ 316 k1 = gI σ 316 k2 ∧ ∀ j, j < 3 → gI υ 314 (3 * k1 + j) = gI σ 314 (3 * k2 + j) ∧ gI υ 315 (3 * k1 + j) = gI σ 315 (3 * k2 + j)
theorem cpy_l {q : Nat → Nat → Prop} {σ τ υ : Mem} {k1 k2 : Nat} (F : Fr q σ τ) (h1 : ∀ c k, c = 311 ∨ c = 312 ∨ c = 313 ∨ c = 316 → q c k → k ≠ k2) (h2 : ∀ c k, c = 314 ∨ c = 315 → q c k → k < 3 * k2 ∨ 3 * k2 + 3 ≤ k) (h : cpy τ υ k1 k2) : cpy σ υ k1 k2 := by
  obtain ⟨a1, a2, a3, a4, a5⟩ := h
  rw [(F.2 311 k2 (fun z => h1 311 k2 (by omega) z rfl)).1] at a1
  refine ⟨a1, a2.trans (F.2 312 k2 (fun z => h1 312 k2 (by omega) z rfl)).1, a3.trans (F.2 313 k2 (fun z => h1 313 k2 (by omega) z rfl)).1, a4.trans (F.2 316 k2 (fun z => h1 316 k2 (by omega) z rfl)).1, fun j hj => ?_⟩
  obtain ⟨b1, b2⟩ := a5 j hj
  exact ⟨b1.trans (F.2 314 _ (fun z => by have := h2 314 _ (by omega) z; omega)).1, b2.trans (F.2 315 _ (fun z => by have := h2 315 _ (by omega) z; omega)).1⟩
theorem cpy_r {q : Nat → Nat → Prop} {σ τ υ : Mem} {k1 k2 : Nat} (F : Fr q τ υ) (h1 : ∀ c k, c = 311 ∨ c = 312 ∨ c = 313 ∨ c = 316 → q c k → k ≠ k1) (h2 : ∀ c k, c = 314 ∨ c = 315 → q c k → k < 3 * k1 ∨ 3 * k1 + 3 ≤ k) (h : cpy σ τ k1 k2) : cpy σ υ k1 k2 := by
  obtain ⟨a1, a2, a3, a4, a5⟩ := h
  refine ⟨(F.2 311 k1 (fun z => h1 311 k1 (by omega) z rfl)).1.trans a1, (F.2 312 k1 (fun z => h1 312 k1 (by omega) z rfl)).1.trans a2, (F.2 313 k1 (fun z => h1 313 k1 (by omega) z rfl)).1.trans a3, (F.2 316 k1 (fun z => h1 316 k1 (by omega) z rfl)).1.trans a4, fun j hj => ?_⟩
  obtain ⟨b1, b2⟩ := a5 j hj
  exact ⟨(F.2 314 _ (fun z => by have := h2 314 _ (by omega) z; omega)).1.trans b1, (F.2 315 _ (fun z => by have := h2 315 _ (by omega) z; omega)).1.trans b2⟩
def cq (a b c k : Nat) : Prop := ((c = 311 ∨ c = 312 ∨ c = 313 ∨ c = 316) ∧ a ≤ k ∧ k < b) ∨ ((c = 314 ∨ c = 315) ∧ 3 * a ≤ k ∧ k < 3 * b)
theorem cp122 {rc47 : Nat → Int32 → Mem → Option (Int32 × Mem)} {p : Nat} (hp : p < 10) (N : Nat) : ∀ s σ, ST σ → s ≤ 4 → 4 < s + N → ∃ υ, fX9_plans_b122 rc47 N 304 (nI p) (nI (10 + p)) (nI s) σ = fX9_plans_b266 rc47 304 (nI p) υ ∧ Fr (cq (4 * p + s) (4 * p + 4)) σ υ ∧ ∀ t, s ≤ t → t < 4 → cpy σ υ (4 * p + t) (4 * (10 + p) + t) := by
  induction N with
  | zero => intro s σ _ _ hn; omega
  | succ N ih =>
    intro s σ hS hs hn
    rw [fX9_plans_b122]
    by_cases c : s < 4
    · obtain ⟨k1, e1⟩ : ∃ x, x = 4 * p + s := ⟨_, rfl⟩
      obtain ⟨k2, e2⟩ : ∃ x, x = 4 * (10 + p) + s := ⟨_, rfl⟩
      have b1 : k1 < 40 := by omega
      have b2 : 40 ≤ k2 := by omega
      have b3 : k2 < 80 := by omega
      obtain ⟨σ1, d1⟩ : ∃ x, x = sI σ 311 k1 (vp_nar .boolean (gI σ 311 k2)) := ⟨_, rfl⟩
      have S1 : ST σ1 := by rw [d1]; exact q_sI hS _ _ _
      obtain ⟨σ2, d2⟩ : ∃ x, x = sI σ1 312 k1 (gI σ1 312 k2) := ⟨_, rfl⟩
      have S2 : ST σ2 := by rw [d2]; exact q_sI S1 _ _ _
      obtain ⟨σ3, d3⟩ : ∃ x, x = sI σ2 313 k1 (gI σ2 313 k2) := ⟨_, rfl⟩
      have S3 : ST σ3 := by rw [d3]; exact q_sI S2 _ _ _
      obtain ⟨σ4, d4⟩ : ∃ x, x = sI σ3 316 k1 (gI σ3 316 k2) := ⟨_, rfl⟩
      have S4 : ST σ4 := by rw [d4]; exact q_sI S3 _ _ _
      have F4 : Fr (fun c k => (c = 311 ∨ c = 312 ∨ c = 313 ∨ c = 316) ∧ k = k1) σ σ4 := by
        rw [d4, d3, d2, d1]
        exact Fr.cI (Fr.cI (Fr.cI (Fr.cI (Fr.refl hS) (by omega)) (by omega)) (by omega)) (by omega)
      obtain ⟨τ, t1, t2, t3⟩ := cp200 (rc47 := rc47) (rc122 := fX9_plans_b122 rc47 N) (x1 := nI p) (x2 := nI (10 + p)) (x3 := nI s) b1 b2 b3 FU 0 σ4 S4 (by omega) (by unfold FU; omega)
      have t1 : fX9_plans_b200 rc47 (fX9_plans_b122 rc47 N) FU 304 (nI p) (nI (10 + p)) (nI s) (nI k1) (nI k2) 0 σ4 = _ := t1
      have F5 : Fr (pq k1) σ τ := Fr.trans F4 t2 (by intro c k h; unfold pq; omega) (by intro c k h; unfold pq; omega)
      obtain ⟨υ, u1, u2, u3⟩ := ih (s + 1) τ t2.1 (by omega) (by omega)
      refine ⟨υ, ?_, Fr.trans F5 u2 (by intro c k h; unfold pq at h; unfold cq; omega) (by intro c k h; unfold cq at h ⊢; omega), fun t h1 h2 => ?_⟩
      · rw [w_4, if_neg (nI_ge c (by decide)), pk_mul, pk_mul, nI_add, nI_add, bd_, bd_, ← e1, ← e2, u_R304_16 hS, bs, bs, u_a311 hS (by omega), bs, u_w311 hS (by omega), bs, ← d1, u_R304_17 S1, bs, bs, u_a312 S1 (by omega), bs, u_w312 S1 (by omega), bs, ← d2, u_R304_18 S2, bs, bs, u_a313 S2 (by omega), bs, u_w313 S2 (by omega), bs, ← d3, u_R304_21 S3, bs, bs, u_a316 S3 (by omega), bs, u_w316 S3 (by omega), bs, ← d4, t1]
        unfold fX9_plans_b260
        rw [bd_, nI_1]
        exact u1
      · by_cases e : t = s
        · subst e
          rw [← e1, ← e2]
          refine cpy_r u2 (by intro c k hc h; unfold cq at h; omega) (by intro c k hc h; unfold cq at h; omega) ⟨?_, ?_, ?_, ?_, fun j hj => ?_⟩
          · rw [(t2.2 311 _ (by omega)).1, d4, gI_sI2 (by omega), d3, gI_sI2 (by omega), d2, gI_sI2 (by omega), d1, gI_sI1]
          · rw [(t2.2 312 _ (by omega)).1, d4, gI_sI2 (by omega), d3, gI_sI2 (by omega), d2, gI_sI1, d1, gI_sI2 (by omega)]
          · rw [(t2.2 313 _ (by omega)).1, d4, gI_sI2 (by omega), d3, gI_sI1, d2, gI_sI2 (by omega), d1, gI_sI2 (by omega)]
          · rw [(t2.2 316 _ (by omega)).1, d4, gI_sI1, d3, gI_sI2 (by omega), d2, gI_sI2 (by omega), d1, gI_sI2 (by omega)]
          · obtain ⟨y1, y2⟩ := t3 j (by omega) hj
            exact ⟨y1.trans (F4.2 314 _ (by omega)).1, y2.trans (F4.2 315 _ (by omega)).1⟩
        · exact cpy_l F5 (by intro c k hc h; unfold pq at h; omega) (by intro c k hc h; unfold pq at h; omega) (u3 t (by omega) h2)
    · have : s = 4 := by omega
      subst this
      rw [if_pos (by decide)]
      exact ⟨σ, rfl, Fr.refl hS, fun t h1 h2 => by omega⟩
def cb (p c k : Nat) : Prop := (306 ≤ c ∧ c ≤ 310 ∧ p ≤ k ∧ k < 10) ∨ cq (4 * p) 40 c k
def CP (σ υ : Mem) (q : Nat) : Prop := gJ υ 306 q = gJ σ 306 (10 + q) ∧ gI υ 307 q = gI σ 307 (10 + q) ∧ gI υ 308 q = gI σ 308 (10 + q) ∧ gI υ 309 q = gI σ 309 (10 + q) ∧ gI υ 310 q = gI σ 310 (10 + q) ∧ ∀ t, t < 4 → cpy σ υ (4 * q + t) (4 * (10 + q) + t)
theorem cp47 {P : Nat} (hP : P ≤ 10) (N : Nat) : ∀ p σ, ST σ → gI σ 304 22 = nI P → p ≤ P → P < p + N → ∃ υ, fX9_plans_b47 N 304 (nI p) σ = fX9_plans_b272 304 υ ∧ Fr (cb p) σ υ ∧ ∀ q, p ≤ q → q < P → CP σ υ q := by
  induction N with
  | zero => intro p σ _ _ _ hn; omega
  | succ N ih =>
    intro p σ hS h22 hp hn
    rw [fX9_plans_b47, u_fI304 hS, bs, h22]
    by_cases c : p < P
    · obtain ⟨σ1, d1⟩ : ∃ x, x = sJ σ 306 p (gJ σ 306 (10 + p)) := ⟨_, rfl⟩
      have S1 : ST σ1 := by rw [d1]; exact q_sJ hS _ _ _
      obtain ⟨σ2, d2⟩ : ∃ x, x = sI σ1 307 p (gI σ1 307 (10 + p)) := ⟨_, rfl⟩
      have S2 : ST σ2 := by rw [d2]; exact q_sI S1 _ _ _
      obtain ⟨σ3, d3⟩ : ∃ x, x = sI σ2 308 p (gI σ2 308 (10 + p)) := ⟨_, rfl⟩
      have S3 : ST σ3 := by rw [d3]; exact q_sI S2 _ _ _
      obtain ⟨σ4, d4⟩ : ∃ x, x = sI σ3 309 p (gI σ3 309 (10 + p)) := ⟨_, rfl⟩
      have S4 : ST σ4 := by rw [d4]; exact q_sI S3 _ _ _
      obtain ⟨σ5, d5⟩ : ∃ x, x = sI σ4 310 p (gI σ4 310 (10 + p)) := ⟨_, rfl⟩
      have S5 : ST σ5 := by rw [d5]; exact q_sI S4 _ _ _
      have F5 : Fr (fun c k => 306 ≤ c ∧ c ≤ 310 ∧ k = p) σ σ5 := by
        rw [d5, d4, d3, d2, d1]
        exact Fr.cI (Fr.cI (Fr.cI (Fr.cI (Fr.cJ (Fr.refl hS) (by omega)) (by omega)) (by omega)) (by omega)) (by omega)
      obtain ⟨τ, t1, t2, t3⟩ := cp122 (rc47 := fX9_plans_b47 N) (p := p) (by omega) FU 0 σ5 S5 (by omega) (by unfold FU; omega)
      have t1 : fX9_plans_b122 (fX9_plans_b47 N) FU 304 (nI p) (nI (10 + p)) 0 σ5 = _ := t1
      have F6 : Fr (fun c k => (306 ≤ c ∧ c ≤ 310 ∧ k = p) ∨ cq (4 * p) (4 * p + 4) c k) σ τ := Fr.trans F5 t2 (by intro c k h; exact Or.inl h) (by intro c k h; exact Or.inr h)
      obtain ⟨υ, u1, u2, u3⟩ := ih (p + 1) τ t2.1 ((F6.2 304 22 (by unfold cq; omega)).1.trans h22) (by omega) (by omega)
      refine ⟨υ, ?_, Fr.trans F6 u2 (by intro c k h; unfold cb cq; unfold cq at h; omega) (by intro c k h; unfold cb cq at h ⊢; omega), fun q h1 h2 => ?_⟩
      · rw [if_neg (nI_ge c (by omega)), w_10, nI_add, bd_, u_R304_11 hS, bs, bs, u_a306 hS (by omega), bs, u_w306 hS (by omega), bs, ← d1, u_R304_12 S1, bs, bs, u_a307 S1 (by omega), bs, u_w307 S1 (by omega), bs, ← d2, u_R304_13 S2, bs, bs, u_a308 S2 (by omega), bs, u_w308 S2 (by omega), bs, ← d3, u_R304_14 S3, bs, bs, u_a309 S3 (by omega), bs, u_w309 S3 (by omega), bs, ← d4, u_R304_15 S4, bs, bs, u_a310 S4 (by omega), bs, u_w310 S4 (by omega), bs, ← d5, t1]
        unfold fX9_plans_b266
        rw [bd_, nI_1]
        exact u1
      · by_cases e : q = p
        · subst e
          refine ⟨?_, ?_, ?_, ?_, ?_, fun t ht => ?_⟩
          · rw [(u2.2 306 q (by unfold cb cq; omega)).2.1, (t2.2 306 q (by unfold cq; omega)).2.1, d5, rdJI, d4, rdJI, d3, rdJI, d2, rdJI, d1, gJ_sJ1]
          · rw [(u2.2 307 q (by unfold cb cq; omega)).1, (t2.2 307 q (by unfold cq; omega)).1, d5, gI_sI2 (by omega), d4, gI_sI2 (by omega), d3, gI_sI2 (by omega), d2, gI_sI1, d1, rdIJ]
          · rw [(u2.2 308 q (by unfold cb cq; omega)).1, (t2.2 308 q (by unfold cq; omega)).1, d5, gI_sI2 (by omega), d4, gI_sI2 (by omega), d3, gI_sI1, d2, gI_sI2 (by omega), d1, rdIJ]
          · rw [(u2.2 309 q (by unfold cb cq; omega)).1, (t2.2 309 q (by unfold cq; omega)).1, d5, gI_sI2 (by omega), d4, gI_sI1, d3, gI_sI2 (by omega), d2, gI_sI2 (by omega), d1, rdIJ]
          · rw [(u2.2 310 q (by unfold cb cq; omega)).1, (t2.2 310 q (by unfold cq; omega)).1, d5, gI_sI1, d4, gI_sI2 (by omega), d3, gI_sI2 (by omega), d2, gI_sI2 (by omega), d1, rdIJ]
          · exact cpy_r u2 (by intro c k hc h; unfold cb cq at h; omega) (by intro c k hc h; unfold cb cq at h; omega) (cpy_l F5 (by intro c k hc h; omega) (by intro c k hc h; omega) (t3 t (by omega) ht))
        · obtain ⟨y1, y2, y3, y4, y5, y6⟩ := u3 q (by omega) h2
          exact ⟨y1.trans (F6.2 306 _ (by unfold cq; omega)).2.1, y2.trans (F6.2 307 _ (by unfold cq; omega)).1, y3.trans (F6.2 308 _ (by unfold cq; omega)).1, y4.trans (F6.2 309 _ (by unfold cq; omega)).1, y5.trans (F6.2 310 _ (by unfold cq; omega)).1, fun t ht => cpy_l F6 (by intro c k hc h; unfold cq at h; omega) (by intro c k hc h; unfold cq at h; omega) (y6 t ht)⟩
    · have : p = P := by omega
      subst this
      rw [if_pos (nI_le (Nat.le_refl _) (by omega))]
      exact ⟨σ, rfl, Fr.refl hS, fun q h1 h2 => by omega⟩
theorem HN9_cp {σ υ : Mem} {q : Nat} {d : NL} (hd : okL d.2) (h : HN9 σ (10 + q) d) (hc : CP σ υ q) : HN9 υ q d := by
  obtain ⟨a1, a2, a3, a4, a5, a6⟩ := h
  obtain ⟨c1, c2, c3, c4, c5, c6⟩ := hc
  refine ⟨c1.trans a1, c2.trans a2, c3.trans a3, c4.trans a4, c5.trans a5, fun s hs => ?_⟩
  obtain ⟨b1, b2⟩ := a6 s hs
  obtain ⟨e1, e2, e3, e4, e5⟩ := c6 s hs
  refine ⟨?_, fun ht => ?_⟩
  · rw [e1, b1]
    split <;> decide
  · obtain ⟨m1, m2, m3, m4⟩ := b2 ht
    have h3 := (hd.2.2.2.2.2.2 s hs ht).2.1
    exact ⟨e2.trans m1, e3.trans m2, e4.trans m3, fun i hi => ⟨(e5 i (by omega)).1.trans (m4 i hi).1, (e5 i (by omega)).2.trans (m4 i hi).2⟩⟩
theorem cp284 (N : Nat) : ∀ i σ, ST σ → i ≤ 4 → 4 < i + N → ∃ τ, fX9_plans_b284 N 304 (nI i) σ = some (gI σ 304 22, τ) ∧ Fr (fun c _ => c = 327) σ τ ∧ (∀ j, i ≤ j → j < 4 → gI τ 327 j = 0) ∧ ∀ j, j < i → gI τ 327 j = gI σ 327 j := by
  induction N with
  | zero => intro i σ _ _ hn; omega
  | succ n ih =>
    intro i σ hS hi hn
    rw [fX9_plans_b284]
    by_cases c : i < 4
    · obtain ⟨τ, t1, t2, t3, t4⟩ := ih (i + 1) _ (q_sI hS 327 i 0) (by omega) (by omega)
      refine ⟨τ, ?_, Fr.tr (Fr.cI (Fr.refl hS) rfl) t2, fun j j1 j2 => ?_, fun j hj => ?_⟩
      · rw [w_4, if_neg (nI_ge c (by omega)), u_R304_39 hS, bs, u_w327 hS c, bs, bd_, nI_1]
        rw [t1, gI_sI2 (by omega)]
      · by_cases e : j = i
        · subst e; rw [t4 j (by omega), gI_sI1]
        · exact t3 j (by omega) j2
      · rw [t4 j (by omega), gI_sI2 (by omega)]
    · have : i = 4 := by omega
      subst this
      rw [if_pos (by decide)]
      unfold fX9_plans_b302
      rw [u_fI304 hS, bs]
      exact ⟨σ, rfl, Fr.refl hS, fun j j1 j2 => by omega, fun _ _ => rfl⟩
theorem fGrp (n : Nat) : ∀ i σ, ST σ → i ≤ 4 → 4 < i + n → ∃ τ, fX1_forget_b2 n 154 (nI i) σ = some τ ∧ Fr (fun c _ => c = 158) σ τ ∧ (∀ j, i ≤ j → j < 4 → gI τ 158 j = -1) ∧ ∀ j, j < i → gI τ 158 j = gI σ 158 j := by
  induction n with
  | zero => intro i σ _ _ hn; omega
  | succ n ih =>
    intro i σ hS hi hn
    rw [fX1_forget_b2]
    by_cases c : i < 4
    · obtain ⟨τ, t1, t2, t3, t4⟩ := ih (i + 1) _ (q_sI hS 158 i (-1)) (by omega) (by omega)
      refine ⟨τ, ?_, Fr.tr (Fr.cI (Fr.refl hS) rfl) t2, fun j j1 j2 => ?_, fun j hj => ?_⟩
      · rw [w_4, if_neg (nI_ge c (by omega)), u_R154_3 hS, bs, u_w158 hS c, bs, bd_, nI_1]
        exact t1
      · by_cases e : j = i
        · subst e; rw [t4 j (by omega), gI_sI1]
        · exact t3 j (by omega) j2
      · rw [t4 j (by omega), gI_sI2 (by omega)]
    · have : i = 4 := by omega
      subst this
      rw [if_pos (by decide)]
      exact ⟨σ, rfl, Fr.refl hS, fun j j1 j2 => by omega, fun _ _ => rfl⟩
