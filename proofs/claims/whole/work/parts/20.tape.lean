/-! feed and uses -/
theorem by_sh (x : Int32) (s : Nat) (hs : s = 24 ∨ s = 16 ∨ s = 8 ∨ s = 0) : (vp_nar .byte ((x >>> (nI s &&& 31) : Int32).toInt8.toInt32)) &&& 255 = (((x.toUInt32 >>> ((nI s).toUInt32 &&& Int32.toUInt32 31)).toInt32) &&& 255) := by
  have k (y : Int32) : vp_nar .byte (y.toInt8.toInt32) = y.toInt8.toInt32 := by
    show y.toInt8.toInt32.toInt8.toInt32 = _
    simp
  rw [k]
  apply Int32.toBitVec_inj.mp
  rw [Int32.toBitVec_and, Int32.toBitVec_and]
  apply BitVec.eq_of_getLsbD_eq
  intro i hi
  have h255 : ((255 : Int32).toBitVec.getLsbD i) = decide (i < 8) := by
    rw [show (255 : Int32).toBitVec = 255#32 from rfl]
    have : ∀ j, j < 32 → (255#32).getLsbD j = decide (j < 8) := by decide
    exact this i hi
  rw [BitVec.getLsbD_and, BitVec.getLsbD_and, h255]
  by_cases h8 : i < 8
  · have e1 : ((x >>> (nI s &&& 31)).toInt8.toInt32.toBitVec).getLsbD i = x.toBitVec.getLsbD (s + i) := by
      rw [Int8.toBitVec_toInt32, Int32.toBitVec_toInt8, Int32.toBitVec_shiftRight]
      simp only [BitVec.getLsbD_signExtend, BitVec.sshiftRight_eq', BitVec.getLsbD_sshiftRight, h8, hi, if_true, decide_true, Bool.true_and]
      have hk : ((nI s &&& 31).toBitVec.smod 32).toNat = s := by rcases hs with rfl | rfl | rfl | rfl <;> decide
      rw [hk, if_pos (by omega)]
      simp
      omega
    have e2 : (((x.toUInt32 >>> ((nI s).toUInt32 &&& Int32.toUInt32 31)).toInt32).toBitVec).getLsbD i = x.toBitVec.getLsbD (s + i) := by
      show ((x.toUInt32 >>> ((nI s).toUInt32 &&& Int32.toUInt32 31)).toBitVec).getLsbD i = _
      rw [UInt32.toBitVec_shiftRight]
      show (x.toBitVec >>> (((nI s).toUInt32 &&& Int32.toUInt32 31).toBitVec % 32)).getLsbD i = _
      rw [BitVec.ushiftRight_eq', BitVec.getLsbD_ushiftRight]
      rcases hs with rfl | rfl | rfl | rfl
      · rw [show (((nI 24).toUInt32 &&& Int32.toUInt32 31).toBitVec % 32).toNat = 24 by decide]
      · rw [show (((nI 16).toUInt32 &&& Int32.toUInt32 31).toBitVec % 32).toNat = 16 by decide]
      · rw [show (((nI 8).toUInt32 &&& Int32.toUInt32 31).toBitVec % 32).toNat = 8 by decide]
      · rw [show (((nI 0).toUInt32 &&& Int32.toUInt32 31).toBitVec % 32).toNat = 0 by decide]
    rw [e1, e2]
  · simp [h8]
theorem feed1 (x : Int32) {σ τ : Mem} {s L : Nat} (hs : s = 24 ∨ s = 16 ∨ s = 8 ∨ s = 0) (hσ : ST σ) (hτ : ST τ) (hL : L < 840) (e : gI σ 1 1 = nI L) (r : R_tape (gI σ 1 1) (gI σ 2) (gI τ 304 2) (gI τ 305)) : ∃ σ' τ', (∀ n, fX6_append_b3 (n + 1) 1 x (nI s) σ = fX6_append_b3 n 1 x (nI s + -8) σ') ∧ (∀ n, fX9_come_b3 (n + 1) 304 x (nI s) τ = fX9_come_b3 n 304 x (nI s + -8) τ') ∧ Fr (fun c k => c = 2 ∨ (c = 1 ∧ k = 1)) σ σ' ∧ Fr (fun c k => c = 305 ∨ (c = 304 ∧ k = 2)) τ τ' ∧ gI σ' 1 1 = nI (L + 1) ∧ R_tape (gI σ' 1 1) (gI σ' 2) (gI τ' 304 2) (gI τ' 305) := by
  have e' : gI τ 304 2 = nI L := r.1.symm.trans e
  refine ⟨sI (sI σ 2 L (vp_nar .byte ((x >>> (nI s &&& 31) : Int32).toInt8.toInt32))) 1 1 (nI (L + 1)), sI (sI τ 305 L (((x.toUInt32 >>> ((nI s).toUInt32 &&& Int32.toUInt32 31)).toInt32) &&& 255)) 304 2 (nI (L + 1)), fun n => ?_, fun n => ?_, Fr.cI (Fr.cI (Fr.refl hσ) (by simp)) (by simp), Fr.cI (Fr.cI (Fr.refl hτ) (by simp)) (by simp), gI_sI1, ?_⟩
  · show (if nI s < 0 then fX6_append_b46 σ else _) = _
    rw [if_neg (nI_pos (by omega)), u_fI1 hσ, bs, e, if_neg (by rw [w_840]; exact nI_ge hL (by decide)), u_R1_0 hσ, bs, bs, u_w2 hσ hL, bs, u_fI1 (q_sI hσ _ _ _), bs, gI_sI2 (by omega), e, u_pI1 (q_sI hσ _ _ _), bs, nI_1]
    rfl
  · show (if nI s < 0 then fX9_come_b39 τ else _) = _
    rw [if_neg (nI_pos (by omega)), u_R304_1 hτ, bs, u_fI304 hτ, bs, e', u_w305 hτ hL, bs, u_fI304 (q_sI hτ _ _ _), bs, gI_sI2 (by omega), e', u_pI304 (q_sI hτ _ _ _), bs, nI_1]
    rfl
  · refine ⟨by simp [rdI], ⟨L + 1, by omega, by simp [rdI]⟩, fun j hj => ?_⟩
    by_cases c : j = L
    · subst c
      simp only [rdI]
      simp
      refine ⟨(by_sh x s hs).symm, ?_⟩
      exact ⟨_, by have := Nat.mod_lt ((x.toUInt32 >>> ((nI s).toUInt32 &&& Int32.toUInt32 31)).toInt32).toBitVec.toNat (show 2 ^ 8 > 0 by decide); omega, pk_and _ 8 (by decide)⟩
    · simp only [rdI]
      simp [c]
      exact r.2.2 j hj
theorem feed4 (x : Int32) {σ τ : Mem} {L : Nat} (hσ : ST σ) (hτ : ST τ) (hL : L + 4 ≤ 840) (e : gI σ 1 1 = nI L) (r : R_tape (gI σ 1 1) (gI σ 2) (gI τ 304 2) (gI τ 305)) : ∃ σ' τ', fX6_append 1 x σ = some σ' ∧ fX9_come 304 x τ = some τ' ∧ Fr (fun c k => c = 2 ∨ (c = 1 ∧ k = 1)) σ σ' ∧ Fr (fun c k => c = 305 ∨ (c = 304 ∧ k = 2)) τ τ' ∧ gI σ' 1 1 = nI (L + 4) ∧ R_tape (gI σ' 1 1) (gI σ' 2) (gI τ' 304 2) (gI τ' 305) := by
  obtain ⟨σ1, τ1, a1, b1, c1, d1, e1, r1⟩ := feed1 x (s := 24) (by simp) hσ hτ (by omega) e r
  obtain ⟨σ2, τ2, a2, b2, c2, d2, e2, r2⟩ := feed1 x (s := 16) (by simp) c1.1 d1.1 (by omega) e1 r1
  obtain ⟨σ3, τ3, a3, b3, c3, d3, e3, r3⟩ := feed1 x (s := 8) (by simp) c2.1 d2.1 (by omega) e2 r2
  obtain ⟨σ4, τ4, a4, b4, c4, d4, e4, r4⟩ := feed1 x (s := 0) (by simp) c3.1 d3.1 (by omega) e3 r3
  refine ⟨σ4, τ4, ?_, ?_, ((c1.tr c2).tr c3).tr c4, ((d1.tr d2).tr d3).tr d4, e4, r4⟩
  · show fX6_append_b3 (999995 + 1 + 1 + 1 + 1 + 1) 1 x (nI 24) σ = _
    rw [a1, show nI 24 + -8 = nI 16 by decide, a2, show nI 16 + -8 = nI 8 by decide, a3, show nI 8 + -8 = nI 0 by decide, a4]
    rfl
  · show fX9_come_b3 (999995 + 1 + 1 + 1 + 1 + 1) 304 x (nI 24) τ = _
    rw [b1, show nI 24 + -8 = nI 16 by decide, b2, show nI 16 + -8 = nI 8 by decide, b3, show nI 8 + -8 = nI 0 by decide, b4]
    rfl
theorem feed20 (a b c d f : Int32) {σ τ : Mem} {L : Nat} (hσ : ST σ) (hτ : ST τ) (hL : L + 20 ≤ 840) (e : gI σ 1 1 = nI L) (r : R_tape (gI σ 1 1) (gI σ 2) (gI τ 304 2) (gI τ 305)) : ∃ σ' τ', (((((fX6_append 1 a σ).bind (fX6_append 1 b)).bind (fX6_append 1 c)).bind (fX6_append 1 d)).bind (fX6_append 1 f)) = some σ' ∧ (((((fX9_come 304 a τ).bind (fX9_come 304 b)).bind (fX9_come 304 c)).bind (fX9_come 304 d)).bind (fX9_come 304 f)) = some τ' ∧ Fr (fun c k => c = 2 ∨ (c = 1 ∧ k = 1)) σ σ' ∧ Fr (fun c k => c = 305 ∨ (c = 304 ∧ k = 2)) τ τ' ∧ gI σ' 1 1 = nI (L + 20) ∧ R_tape (gI σ' 1 1) (gI σ' 2) (gI τ' 304 2) (gI τ' 305) := by
  obtain ⟨σ1, τ1, a1, b1, c1, d1, e1, r1⟩ := feed4 a hσ hτ (by omega) e r
  obtain ⟨σ2, τ2, a2, b2, c2, d2, e2, r2⟩ := feed4 b c1.1 d1.1 (by omega) e1 r1
  obtain ⟨σ3, τ3, a3, b3, c3, d3, e3, r3⟩ := feed4 c c2.1 d2.1 (by omega) e2 r2
  obtain ⟨σ4, τ4, a4, b4, c4, d4, e4, r4⟩ := feed4 d c3.1 d3.1 (by omega) e3 r3
  obtain ⟨σ5, τ5, a5, b5, c5, d5, e5, r5⟩ := feed4 f c4.1 d4.1 (by omega) e4 r4
  refine ⟨σ5, τ5, ?_, ?_, (((c1.tr c2).tr c3).tr c4).tr c5, (((d1.tr d2).tr d3).tr d4).tr d5, e5, r5⟩
  · rw [a1, bs, a2, bs, a3, bs, a4, bs, a5]
  · rw [b1, bs, b2, bs, b3, bs, b4, bs, b5]
theorem fd8 {a b c d f : Int32} {σ σ' : Mem} (hS : ST σ) (h : (((((fX6_append 1 a σ).bind (fX6_append 1 b)).bind (fX6_append 1 c)).bind (fX6_append 1 d)).bind (fX6_append 1 f)) = some σ') (hm : ∀ x σ τ, ST σ → fX6_append 1 x σ = some τ → ST τ) (hc : gI σ 1 1 + 20 ≤ 840) : fX8_feed 0 a b c d f σ = some (gI σ' 1 1, σ') := by
  obtain ⟨s4, h, h5⟩ := bn h
  obtain ⟨s3, h, h4⟩ := bn h
  obtain ⟨s2, h, h3⟩ := bn h
  obtain ⟨s1, h1, h2⟩ := bn h
  have k1 := hm _ _ _ hS h1
  have k2 := hm _ _ _ k1 h2
  have k3 := hm _ _ _ k2 h3
  have k4 := hm _ _ _ k3 h4
  have k5 := hm _ _ _ k4 h5
  unfold fX8_feed
  rw [u_R0_0 hS, bs, u_fI1 hS, bs, if_pos hc, bs, u_kT1 hS, bs, h1, bs, u_R0_0 k1, bs, u_kT1 k1, bs, h2, bs, u_R0_0 k2, bs, u_kT1 k2, bs, h3, bs, u_R0_0 k3, bs, u_kT1 k3, bs, h4, bs, u_R0_0 k4, bs, u_kT1 k4, bs, h5, bs, u_R0_0 k5, bs, u_fI1 k5, bs]
theorem fd9 {a b c d f : Int32} {σ σ' : Mem} (hS : ST σ) (h : (((((fX9_come 304 a σ).bind (fX9_come 304 b)).bind (fX9_come 304 c)).bind (fX9_come 304 d)).bind (fX9_come 304 f)) = some σ') (hm : ∀ x σ τ, ST σ → fX9_come 304 x σ = some τ → ST τ) (hc : gI σ 304 2 + 20 ≤ 840) {σ0 : Mem} (h0 : pI σ0 9 0 (some 304) 0 = some σ) : fX9_feed 304 a b c d f σ0 = some (gI σ' 304 2, σ') := by
  obtain ⟨s4, h, h5⟩ := bn h
  obtain ⟨s3, h, h4⟩ := bn h
  obtain ⟨s2, h, h3⟩ := bn h
  obtain ⟨s1, h1, h2⟩ := bn h
  have k1 := hm _ _ _ hS h1
  have k2 := hm _ _ _ k1 h2
  have k3 := hm _ _ _ k2 h3
  have k4 := hm _ _ _ k3 h4
  have k5 := hm _ _ _ k4 h5
  unfold fX9_feed
  rw [h0, bs, u_fI304 hS, bs, if_pos hc, u_kT304 hS, bs, h1, bs, u_kT304 k1, bs, h2, bs, u_kT304 k2, bs, h3, bs, u_kT304 k3, bs, h4, bs, u_kT304 k4, bs, h5, bs, u_fI304 k5, bs]
theorem ST_of {σ τ : Mem} (h : ST σ) (h1 : τ.1 = σ.1) (h2 : τ.2.1 = σ.2.1) (h3 : τ.2.2.1 = σ.2.2.1) (h4 : τ.2.2.2.2.2 = σ.2.2.2.2.2) : ST τ := by
  unfold ST gL gR at *
  rw [h1, h2, h3, h4]
  exact h
theorem pI_ST {σ τ : Mem} {k j : Nat} {v : Option Nat} {x : Int32} (h : ST σ) (e : pI σ k j v x = some τ) : ST τ := by
  cases v with
  | none => cases e
  | some c =>
    have e : (if kd σ c = k then some (sI σ c j x) else none) = some τ := e
    split at e
    · cases e; exact h
    · cases e
theorem wI_ST {σ τ : Mem} {k : Nat} {v : Option Nat} {i x : Int32} (h : ST σ) (e : wI σ k v i x = some τ) : ST τ := by
  cases v with
  | none => cases e
  | some c =>
    have e : (if kd σ c = k then (if i < 0 ∨ gL σ c ≤ i.toNatClampNeg then none else some (sI σ c i.toNatClampNeg x)) else none) = some τ := e
    split at e
    · split at e
      · cases e
      · cases e; exact h
    · cases e
theorem app_ST (n : Nat) : ∀ x y σ τ, ST σ → fX6_append_b3 n 1 x y σ = some τ → ST τ := by
  induction n with
  | zero => intro x y σ τ _ h; cases h
  | succ n ih =>
    intro x y σ τ hS h
    have h : (if y < 0 then fX6_append_b46 σ else _) = some τ := h
    split at h
    · cases h; exact hS
    · obtain ⟨t2, -, h⟩ := bn h
      split at h
      · cases h; exact hS
      · obtain ⟨t4, -, h⟩ := bn h
        obtain ⟨t5, -, h⟩ := bn h
        obtain ⟨m6, e6, h⟩ := bn h
        obtain ⟨t7, -, h⟩ := bn h
        obtain ⟨m8, e8, h⟩ := bn h
        exact ih _ _ _ _ (pI_ST (wI_ST hS e6) e8) h
theorem come_ST (n : Nat) : ∀ x y σ τ, ST σ → fX9_come_b3 n 304 x y σ = some τ → ST τ := by
  induction n with
  | zero => intro x y σ τ _ h; cases h
  | succ n ih =>
    intro x y σ τ hS h
    have h : (if y < 0 then fX9_come_b39 σ else _) = some τ := h
    split at h
    · cases h; exact hS
    · obtain ⟨t4, -, h⟩ := bn h
      obtain ⟨t5, -, h⟩ := bn h
      obtain ⟨m6, e6, h⟩ := bn h
      obtain ⟨t7, -, h⟩ := bn h
      obtain ⟨m8, e8, h⟩ := bn h
      exact ih _ _ _ _ (pI_ST (wI_ST hS e6) e8) h
theorem op_feed (a b c d f : Int32) : OpI Rel (fX8_feed 0 a b c d f) (fX9_feed 304 a b c d f) := by
  intro σ h
  have hS := h.1
  have hS1 := q_sI hS 304 0 0
  have hT := Rel_th h 0
  obtain ⟨h0, h1, h2, h3, h4, h5, h6, h7, h8, h9⟩ := h
  obtain ⟨r1, ⟨L, hL, r2⟩, r3⟩ := h1
  have g0 : gI (sI σ 304 0 0) 304 2 = nI L := (gI_sI2 (by decide)).trans (r1.symm.trans r2)
  by_cases k : L + 20 ≤ 840
  · have R0 : R_tape (gI σ 1 1) (gI σ 2) (gI (sI σ 304 0 0) 304 2) (gI (sI σ 304 0 0) 305) := by
      rw [gI_sI_n (show 305 ≠ 304 by decide), gI_sI2 (by decide)]
      exact ⟨r1, ⟨L, hL, r2⟩, r3⟩
    obtain ⟨σ', -, A, -, C, -, E, -⟩ := feed20 a b c d f hS hS1 k r2 R0
    have R1 : R_tape (gI σ 1 1) (gI σ 2) (gI (sI σ' 304 0 0) 304 2) (gI (sI σ' 304 0 0) 305) := by
      rw [gI_sI_n (show 305 ≠ 304 by decide), gI_sI2 (by decide), C.eI (c := 305) (by simp), (C.2 304 2 (by simp)).1]
      exact ⟨r1, ⟨L, hL, r2⟩, r3⟩
    have hS2 := q_sI C.1 304 0 0
    obtain ⟨σ'', τ', A', B, C', D, E', R⟩ := feed20 a b c d f hS hS2 k r2 R1
    rw [A] at A'
    cases A'
    refine ⟨nI (L + 20), σ', τ', ?_, k9 C.1, ?_, ?_⟩
    · rw [fd8 hS A (fun x σ τ h => app_ST _ _ _ σ τ h) (by rw [r2, w_20, w_840, nI_add]; exact nI_le k (by decide)), E]
    · rw [fd9 hS2 B (fun x σ τ h => come_ST _ _ _ σ τ h) (by rw [← R1.1, r2, w_20, w_840, nI_add]; exact nI_le k (by decide)) (u_pI304 C.1), ← R.1, E]
    · have F : Fr (fun c k => c = 2 ∨ (c = 1 ∧ k = 1) ∨ c = 305 ∨ (c = 304 ∧ (k = 2 ∨ k = 0))) σ τ' := Fr.tr (Fr.cI (Fr.mono C (by intro c k h; omega)) (by simp)) (Fr.mono D (by intro c k h; omega))
      have e1 : gI τ' 1 1 = gI σ' 1 1 := ((D.2 1 1 (by simp)).1).trans (gI_sI2 (by decide))
      have e2 : gI τ' 2 = gI σ' 2 := (D.eI (by simp)).trans (gI_sI_n (by decide))
      refine ⟨D.1, ?_, c_flt F (by simp) (by simp) h2, c_use F (by simp) (by simp) h3, c_chg F (by simp) (by simp) h4, c_span F (by simp) (by simp) (by simp) (by simp) h5, c_row F (by simp) (by simp) (by simp) (by simp) h6, c_grp F (by simp) (by simp) h7, c_out F (by simp) (by simp) (by simp) (by simp) h8, R_book_Fr F (by unfold inBk; intro c hc k; omega) (by simp) (by simp) (by simp) h9⟩
      rw [e1, e2]
      exact R
  · refine ⟨-1, σ, sI σ 304 0 0, ?_, k9 hS, ?_, hT⟩
    · unfold fX8_feed
      rw [u_R0_0 hS, bs, u_fI1 hS, bs, r2, w_20, w_840, nI_add, if_neg (nI_ge (by omega) (by omega))]
    · unfold fX9_feed
      rw [u_pI304 hS, bs, u_fI304 hS1, bs, g0, w_20, w_840, nI_add, if_neg (nI_ge (by omega) (by omega))]
/-! uses -/
theorem or_nI (a b : Nat) (hb : b < 256) : nI (a * 2 ^ 8) ||| nI b = nI (256 * a + b) := by
  rw [show 256 * a + b = 2 ^ 8 * a + b by omega, Nat.two_pow_add_eq_or_of_lt hb, Nat.mul_comm]
  apply Int32.toBitVec_inj.mp
  rw [Int32.toBitVec_or]
  apply BitVec.eq_of_toNat_eq
  show (BitVec.ofNat 32 (2 ^ 8 * a) ||| BitVec.ofNat 32 b).toNat = (BitVec.ofNat 32 (2 ^ 8 * a ||| b)).toNat
  simp [BitVec.toNat_or, BitVec.toNat_ofNat, Nat.or_mod_two_pow]
/-- the tape as numbers -/
def tp (σ : Mem) (L : Nat) (T : Nat → Nat) : Prop := L ≤ 840 ∧ gI σ 1 1 = nI L ∧ ∀ j, j < 840 → T j ≤ 255 ∧ gI σ 2 j &&& 255 = nI (T j)
def tq (σ : Mem) (T : Nat → Nat) : Prop := ∀ j, j < 840 → T j ≤ 255 ∧ gI σ 305 j = nI (T j)
theorem tp_of {σ : Mem} (r : R_tape (gI σ 1 1) (gI σ 2) (gI σ 304 2) (gI σ 305)) : ∃ L T, tp σ L T ∧ tq σ T ∧ gI σ 304 2 = nI L := by
  obtain ⟨r1, ⟨L, hL, r2⟩, r3⟩ := r
  refine ⟨L, fun j => (gI σ 305 j).toNatClampNeg, ⟨hL, r2, fun j hj => ?_⟩, fun j hj => ?_, r1.symm.trans r2⟩
  · obtain ⟨e1, t, ht, e2⟩ := r3 j hj
    show (gI σ 305 j).toNatClampNeg ≤ 255 ∧ _ = nI (gI σ 305 j).toNatClampNeg
    rw [← e1, e2, nI_clamp (by omega)]
    exact ⟨ht, rfl⟩
  · obtain ⟨e1, t, ht, e2⟩ := r3 j hj
    show (gI σ 305 j).toNatClampNeg ≤ 255 ∧ _ = nI (gI σ 305 j).toNatClampNeg
    rw [e2, nI_clamp (by omega)]
    exact ⟨ht, rfl⟩
theorem byA {σ : Mem} {L : Nat} {T : Nat → Nat} (hS : ST σ) (h : tp σ L T) {j : Nat} (hj : j < L) : fX6_byteAt 1 (nI j) σ = some (nI (T j), σ) := by
  obtain ⟨h1, h2, h3⟩ := h
  unfold fX6_byteAt
  rw [if_neg (nI_pos (by omega)), u_fI1 hS, bs, h2, if_neg (nI_ge hj (by omega)), w_840, if_pos (nI_lt (by omega) (by decide)), u_R1_0 hS, bs, u_a2 hS (by omega), bs, (h3 j (by omega)).2]
  rfl
def nm (T : Nat → Nat) (k : Nat) : Nat := 256 * T (2 * k) + T (2 * k + 1)
theorem numA {σ : Mem} {L : Nat} {T : Nat → Nat} (hS : ST σ) (h : tp σ L T) {k : Nat} (hk : 2 * k + 1 < L) : fX7_numberAt (some 1) (nI k) σ = some (nI (nm T k), σ) := by
  have hL := h.1
  have e1 := (h.2.2 (2 * k) (by omega)).1
  have e2 := (h.2.2 (2 * k + 1) (by omega)).1
  unfold fX7_numberAt
  rw [u_kT1 hS, bs, w_2, pk_mul, byA hS h (by omega), b2s, u_kT1 hS, bs, nI_1, byA hS h hk, b2s, pk_shlN (8 &&& 31) 8 (by decide) (by omega), or_nI _ _ (by omega)]
  rfl
theorem tk1 {σ : Mem} {L M : Nat} {T : Nat → Nat} {x : Int32} (hS : ST σ) (h : tp σ L T) (hM : L = 2 * M) (n : Nat) : ∀ k, k ≤ M → M < k + n → fX7_take_b47 n 146 (some 1) x (nI M) (nI k) σ = if ∀ j, j < M → k ≤ j → nm T j ≤ 20000 then fX7_take_b74 146 (some 1) x (nI M) σ else some (-1, σ) := by
  have hL := h.1
  have hT (j : Nat) (hj : j < M) : nm T j < 2 ^ 31 := by
    have e1 := (h.2.2 (2 * j) (by omega)).1
    have e2 := (h.2.2 (2 * j + 1) (by omega)).1
    unfold nm
    omega
  induction n with
  | zero => intro k hk hn; omega
  | succ n ih =>
    intro k hk hn
    show (if nI M ≤ nI k then _ else _) = _
    by_cases c : M ≤ k
    · rw [if_pos (nI_le c (by omega)), if_pos (fun j h1 h2 => by omega)]
    · rw [if_neg (nI_ge (by omega) (by omega)), numA hS h (by omega), b2s]
      by_cases c2 : nm T k ≤ 20000
      · rw [if_pos (by rw [w_20000]; exact nI_le c2 (by decide)), bd_, nI_1, ih (k + 1) (by omega) (by omega)]
        by_cases c3 : ∀ j, j < M → k + 1 ≤ j → nm T j ≤ 20000
        · rw [if_pos c3, if_pos]
          intro j h1 h2
          by_cases e : j = k
          · rw [e]; exact c2
          · exact c3 j h1 (by omega)
        · rw [if_neg c3, if_neg]
          exact fun q => c3 (fun j h1 h2 => q j h1 (by omega))
      · rw [if_neg (by rw [w_20000]; exact nI_ge (by omega) (hT k (by omega))), if_neg]
        exact fun q => c2 (q k (by omega) (Nat.le_refl _))
theorem tk2 {L M f : Nat} {T : Nat → Nat} (hM : L = 2 * M) (hf : f + M ≤ 384) (n : Nat) : ∀ k σ, ST σ → tp σ L T → k ≤ M → M < k + n → ∃ τ, fX7_take_b77 n 146 (some 1) (nI f) (nI M) (nI k) σ = some (nI M, τ) ∧ Fr (fun c _ => c = 147) σ τ ∧ ∀ i, gI τ 147 i = if f + k ≤ i ∧ i < f + M then nI (nm T (i - f)) else gI σ 147 i := by
  induction n with
  | zero => intro k σ _ _ hk hn; omega
  | succ n ih =>
    intro k σ hS h hk hn
    have hL := h.1
    by_cases c : M ≤ k
    · refine ⟨σ, ?_, Fr.refl hS, fun i => by rw [if_neg (by omega)]⟩
      show (if nI M ≤ nI k then _ else _) = _
      rw [if_pos (nI_le c (by omega))]
      rfl
    · have hS1 := q_sI hS 147 (f + k) (nI (nm T k))
      have h1 : tp (sI σ 147 (f + k) (nI (nm T k))) L T := ⟨h.1, (gI_sI2 (by omega)).trans h.2.1, fun j hj => by rw [gI_sI2 (by omega)]; exact h.2.2 j hj⟩
      obtain ⟨τ, e1, e2, e3⟩ := ih (k + 1) _ hS1 h1 (by omega) (by omega)
      refine ⟨τ, ?_, Fr.tr (Fr.cI (Fr.refl hS) (by simp)) e2, fun i => ?_⟩
      · show (if nI M ≤ nI k then _ else _) = _
        rw [if_neg (nI_ge (by omega) (by omega)), u_R146_0 hS, bs, u_l147 hS, bs, nI_add, if_neg (nI_ge (by omega) (by omega)), bs, numA hS h (by omega), b2s, u_w147 hS (by omega), bs, bd_, nI_1]
        exact e1
      · rw [e3, rdI]
        by_cases q : i = f + k
        · rw [if_neg (by omega), if_pos ⟨rfl, q⟩, if_pos (by omega), q, Nat.add_sub_cancel_left]
        · rw [if_neg (by omega : ¬ (147 = 147 ∧ i = f + k))]
          by_cases q2 : f + (k + 1) ≤ i ∧ i < f + M
          · rw [if_pos q2, if_pos (by omega)]
          · rw [if_neg q2, if_neg (by omega)]
theorem mk1 {σ : Mem} {L M : Nat} {T : Nat → Nat} {x y z : Int32} (hS : ST σ) (h : tq σ T) (hL : L ≤ 840) (hM : L = 2 * M) (n : Nat) : ∀ k, k ≤ M → M < k + n → fX9_uses_b64 n 304 x y z (nI L) (nI (2 * k)) σ = if ∀ j, j < M → k ≤ j → nm T j ≤ 20000 then fX9_uses_b106 304 x y z (nI L) σ else some (-1, σ) := by
  have hT (j : Nat) (hj : j < M) : nm T j < 2 ^ 31 := by
    have e1 := (h (2 * j) (by omega)).1
    have e2 := (h (2 * j + 1) (by omega)).1
    unfold nm
    omega
  induction n with
  | zero => intro k hk hn; omega
  | succ n ih =>
    intro k hk hn
    show (if nI L ≤ nI (2 * k) then _ else _) = _
    by_cases c : M ≤ k
    · rw [if_pos (nI_le (by omega) (by omega)), if_pos (fun j h1 h2 => by omega)]
    · rw [if_neg (nI_ge (by omega) (by omega)), u_R304_1 hS, bs, u_a305 hS (by omega), bs, bs, nI_1, u_a305 hS (by omega), bs, (h (2 * k) (by omega)).2, (h (2 * k + 1) (by omega)).2, w_256, pk_mul, nI_add]
      show (if nI (nm T k) ≤ 20000 then _ else _) = _
      by_cases c2 : nm T k ≤ 20000
      · rw [if_pos (by rw [w_20000]; exact nI_le c2 (by decide)), bd_, w_2, nI_add, ← Nat.mul_succ 2 k, ih (k + 1) (by omega) (by omega)]
        by_cases c3 : ∀ j, j < M → k + 1 ≤ j → nm T j ≤ 20000
        · rw [if_pos c3, if_pos]
          intro j h1 h2
          by_cases e : j = k
          · rw [e]; exact c2
          · exact c3 j h1 (by omega)
        · rw [if_neg c3, if_neg]
          exact fun q => c3 (fun j h1 h2 => q j h1 (by omega))
      · rw [if_neg (by rw [w_20000]; exact nI_ge (by omega) (hT k (by omega))), if_neg]
        exact fun q => c2 (q k (by omega) (Nat.le_refl _))
theorem mk2 {L M a b c : Nat} {T : Nat → Nat} (hL : L ≤ 840) (hM : L = 2 * M) (hf : (4 * a + b) * 24 + c + M ≤ 384) (n : Nat) : ∀ k σ, ST σ → tq σ T → k ≤ M → M < k + n → ∃ τ, fX9_uses_b109 n 304 (nI a) (nI b) (nI c) (nI L) (nI (2 * k)) σ = some (nI M, τ) ∧ Fr (fun c _ => c = 318) σ τ ∧ ∀ i, gI τ 318 i = if (4 * a + b) * 24 + c + k ≤ i ∧ i < (4 * a + b) * 24 + c + M then nI (nm T (i - ((4 * a + b) * 24 + c))) else gI σ 318 i := by
  induction n with
  | zero => intro k σ _ _ hk hn; omega
  | succ n ih =>
    intro k σ hS h hk hn
    by_cases q : M ≤ k
    · refine ⟨σ, ?_, Fr.refl hS, fun i => by rw [if_neg (by omega)]⟩
      show (if nI L ≤ nI (2 * k) then _ else _) = _
      rw [if_pos (nI_le (by omega) (by omega))]
      unfold fX9_uses_b159
      rw [w_2, pk_div (by omega) (by decide) (by decide), show L / 2 = M by omega]
    · have hS1 := q_sI hS 318 ((4 * a + b) * 24 + c + k) (nI (nm T k))
      have h1 : tq (sI σ 318 ((4 * a + b) * 24 + c + k) (nI (nm T k))) T := fun j hj => by rw [gI_sI2 (by omega)]; exact h j hj
      obtain ⟨τ, e1, e2, e3⟩ := ih (k + 1) _ hS1 h1 (by omega) (by omega)
      refine ⟨τ, ?_, Fr.tr (Fr.cI (Fr.refl hS) (by simp)) e2, fun i => ?_⟩
      · show (if nI L ≤ nI (2 * k) then _ else _) = _
        unfold fX9_cell
        rw [if_neg (nI_ge (by omega) (by omega)), u_R304_27 hS, bs, b2s, u_R304_1 hS, bs, u_a305 hS (by omega), bs, bs, nI_1, u_a305 hS (by omega), bs, (h (2 * k) (by omega)).2, (h (2 * k + 1) (by omega)).2, w_256, pk_mul, nI_add, w_2, pk_div (by omega) (by decide) (by decide), w_4, w_24, pk_mul, nI_add, nI_add, pk_mul, nI_add, show (4 * a + b) * 24 + (c + 2 * k / 2) = (4 * a + b) * 24 + c + k by omega, u_w318 hS (by omega), bs, bd_, nI_add, ← Nat.mul_succ 2 k]
        exact e1
      · rw [e3, rdI]
        by_cases q3 : i = (4 * a + b) * 24 + c + k
        · rw [if_neg (by omega), if_pos ⟨rfl, q3⟩, if_pos (by omega), q3, Nat.add_sub_cancel_left]
        · rw [if_neg (by omega : ¬ (318 = 318 ∧ i = (4 * a + b) * 24 + c + k))]
          by_cases q2 : (4 * a + b) * 24 + c + (k + 1) ≤ i ∧ i < (4 * a + b) * 24 + c + M
          · rw [if_pos q2, if_pos (by omega)]
          · rw [if_neg q2, if_neg (by omega)]
theorem op_uses (a b c : Int32) : OpI Rel (fX8_uses 0 a b c) (fX9_uses 304 a b c) := by
  intro σ h
  have hS := h.1
  obtain ⟨h0, h1, h2, h3, h4, h5, h6, h7, h8, h9⟩ := h
  obtain ⟨L, T, t1, t2, t3⟩ := tp_of h1
  have hL := t1.1
  -- the memory behind a refusal
  have no (h8' : fX7_take 146 (some 1) a b c σ = some (-1, σ)) (h9' : ∀ τ, ST τ → gI τ 304 2 = nI L → gI τ 305 = gI σ 305 → fX9_uses 304 a b c τ = some (-1, sI (sI τ 304 0 0) 304 2 0)) : ∃ r σ1 σ2, fX8_uses 0 a b c σ = some (r, σ1) ∧ kd σ1 304 = 9 ∧ fX9_uses 304 a b c σ1 = some (r, σ2) ∧ Rel σ2 := by
    refine ⟨-1, sI σ 1 1 0, sI (sI (sI σ 1 1 0) 304 0 0) 304 2 0, ?_, k9 hS, ?_, ?_⟩
    · unfold fX8_uses
      rw [u_R0_2 hS, bs, u_R0_0 hS, bs, u_kT146 hS, bs, h8', b2s, u_R0_0 hS, bs, u_pI1 hS, bs]
    · exact h9' _ (q_sI hS _ _ _) ((gI_sI2 (by decide)).trans t3) (gI_sI_n (by decide))
    · have F : Fr (fun c k => (c = 1 ∧ k = 1) ∨ (c = 304 ∧ (k = 2 ∨ k = 0))) σ (sI (sI (sI σ 1 1 0) 304 0 0) 304 2 0) := Fr.cI (Fr.cI (Fr.cI (Fr.refl hS) (by simp)) (by simp)) (by simp)
      refine ⟨hS, ⟨by simp [rdI], by simp [rdI]; exact bN0 _, ?_⟩, c_flt F (by simp) (by simp) h2, c_use F (by simp) (by simp) h3, c_chg F (by simp) (by simp) h4, c_span F (by simp) (by simp) (by simp) (by simp) h5, c_row F (by simp) (by simp) (by simp) (by simp) h6, c_grp F (by simp) (by simp) h7, c_out F (by simp) (by simp) (by simp) (by simp) h8, R_book_Fr F (by unfold inBk; intro c hc k; omega) (by simp) (by simp) (by simp) h9⟩
      rw [F.eI (c := 2) (by simp), F.eI (c := 305) (by simp)]
      exact h1.2.2
  have pre (τ : Mem) (k1 : ST τ) (k2 : gI τ 304 2 = nI L) : fX9_uses 304 a b c τ = (b2 (fX9_isIn a 4 (sI (sI τ 304 0 0) 304 2 0)) fun t4 m5 =>
    if t4 = 0 then fX9_uses_b59 m5
    else b2 (fX9_isIn b 4 m5) fun t7 m8 =>
      if t7 = 0 then fX9_uses_b59 m8
      else b2 (fX9_isIn c 24 m8) fun t10 m11 =>
        if t10 = 0 then fX9_uses_b59 m11
        else if (nI L - nI L / 2 * 2) = 0 then if (c + (nI L / 2)) ≤ 24 then fX9_uses_b64 FU 304 a b c (nI L) 0 m11
            else fX9_uses_b59 m11
          else fX9_uses_b59 m11) := by
    unfold fX9_uses
    rw [u_pI304 k1, bs, u_fI304 (q_sI k1 _ _ _), bs, gI_sI2 (by decide), k2, u_pI304 (q_sI k1 _ _ _), bs]
  rcases inC a (n := 4) (by decide) (by decide) with ⟨x, hx, rfl, w1, w2⟩ | ⟨w0, w1, w2⟩
  · rcases inC b (n := 4) (by decide) (by decide) with ⟨y, hy, rfl, w3, w4⟩ | ⟨w0, w3, w4⟩
    · rcases inC c (n := 24) (by decide) (by decide) with ⟨z, hz, rfl, w5, w6⟩ | ⟨w0, w5, w6⟩
      · have sl : fX7_slot (nI x) (nI y) (nI z) σ = some (nI ((x * 4 + y) * 24 + z), σ) := by
          unfold fX7_slot
          rw [w_0, w_3, w_23, w2 σ, b2s, if_neg (by decide), w4 σ, b2s, if_neg (by decide), w6 σ, b2s, if_neg (by decide), w_4, w_24, pk_mul, nI_add, pk_mul, nI_add]
        have tk : fX7_take 146 (some 1) (nI x) (nI y) (nI z) σ = if L % 2 = 0 ∧ L / 2 ≤ 24 - z then fX7_take_b47 FU 146 (some 1) (nI ((x * 4 + y) * 24 + z)) (nI (L / 2)) (nI 0) σ else some (-1, σ) := by
          unfold fX7_take
          rw [sl, b2s, u_fI1 hS, bs, bd_, bs, t1.2.1, w_2, pk_rem (by omega) (by decide) (by decide), pk_div (by omega) (by decide) (by decide), if_neg (by rw [w_1, m1_ne (by omega)]; exact id), w_24, pk_sub (by omega)]
          by_cases c1 : L % 2 = 0
          · rw [if_pos (by rw [c1]; rfl)]
            by_cases c2 : L / 2 ≤ 24 - z
            · rw [if_pos (nI_le c2 (by omega)), if_pos ⟨c1, c2⟩]
              rfl
            · rw [if_neg (nI_ge (by omega) (by omega)), if_neg (fun q => c2 q.2)]
              rfl
          · rw [if_neg (nI_ne0 (by omega) (by omega)), if_neg (fun q => c1 q.1)]
            rfl
        have mk (τ : Mem) (k1 : ST τ) (k2 : gI τ 304 2 = nI L) : fX9_uses 304 (nI x) (nI y) (nI z) τ = if L % 2 = 0 ∧ L / 2 ≤ 24 - z then fX9_uses_b64 FU 304 (nI x) (nI y) (nI z) (nI L) (nI (2 * 0)) (sI (sI τ 304 0 0) 304 2 0) else some (-1, sI (sI τ 304 0 0) 304 2 0) := by
          rw [pre τ k1 k2, w_4, w1, b2s, if_neg (by decide), w3, b2s, if_neg (by decide), w_24, w5, b2s, if_neg (by decide), w_2, pk_rem (by omega) (by decide) (by decide), pk_div (by omega) (by decide) (by decide), nI_add]
          by_cases c1 : L % 2 = 0
          · rw [if_pos (by rw [c1]; rfl)]
            by_cases c2 : L / 2 ≤ 24 - z
            · rw [if_pos (nI_le (by omega) (by omega)), if_pos ⟨c1, c2⟩]
              rfl
            · rw [if_neg (nI_ge (by omega) (by omega)), if_neg (fun q => c2 q.2)]
              rfl
          · rw [if_neg (nI_ne0 (by omega) (by omega)), if_neg (fun q => c1 q.1)]
            rfl
        by_cases cc : L % 2 = 0 ∧ L / 2 ≤ 24 - z
        · have e47 := tk1 (x := nI ((x * 4 + y) * 24 + z)) hS t1 (M := L / 2) (by omega) FU 0 (by omega) (by unfold FU; omega)
          have e64 (τ : Mem) (k1 : ST τ) (k3 : gI τ 305 = gI σ 305) := mk1 (σ := sI (sI τ 304 0 0) 304 2 0) (T := T) (x := nI x) (y := nI y) (z := nI z) (q_sI (q_sI k1 _ _ _) _ _ _) (fun j hj => by rw [gI_sI2 (by omega), gI_sI2 (by omega), k3]; exact t2 j hj) hL (M := L / 2) (by omega) FU 0 (by omega) (by unfold FU; omega)
          by_cases c3 : ∀ j, j < L / 2 → 0 ≤ j → nm T j ≤ 20000
          · rw [if_pos c3] at e47
            obtain ⟨σ1, q1, q2, q3⟩ := tk2 (L := L) (M := L / 2) (f := (x * 4 + y) * 24 + z) (T := T) (by omega) (by omega) FU 0 σ hS t1 (by omega) (by unfold FU; omega)
            have k1 := q2.1
            have k2 : gI (sI σ1 1 1 0) 304 2 = nI L := (gI_sI2 (by decide)).trans ((q2.2 304 2 (by simp)).1.trans t3)
            have k3 : gI (sI σ1 1 1 0) 305 = gI σ 305 := (gI_sI_n (by decide)).trans (q2.eI (by simp))
            have k4 := q_sI (q_sI (q_sI k1 1 1 0) 304 0 0) 304 2 0
            obtain ⟨σ2, p1, p2, p3⟩ := mk2 (L := L) (M := L / 2) (a := x) (b := y) (c := z) (T := T) hL (by omega) (by omega) FU 0 _ k4 (fun j hj => by rw [gI_sI2 (by omega), gI_sI2 (by omega), k3]; exact t2 j hj) (by omega) (by unfold FU; omega)
            refine ⟨nI (L / 2), sI σ1 1 1 0, σ2, ?_, k9 k1, ?_, ?_⟩
            · unfold fX8_uses
              rw [u_R0_2 hS, bs, u_R0_0 hS, bs, u_kT146 hS, bs, tk, if_pos cc, e47]
              unfold fX7_take_b74
              rw [w_0, q1, b2s, u_R0_0 k1, bs, u_pI1 k1, bs]
            · rw [mk _ (q_sI k1 _ _ _) k2, if_pos cc, e64 _ (q_sI k1 _ _ _) k3, if_pos c3]
              unfold fX9_uses_b106
              exact p1
            · have F : Fr (fun c k => (c = 1 ∧ k = 1) ∨ (c = 304 ∧ (k = 2 ∨ k = 0)) ∨ c = 147 ∨ c = 318) σ σ2 := Fr.tr (Fr.cI (Fr.cI (Fr.cI (Fr.mono q2 (by intro c k h; omega)) (by simp)) (by simp)) (by simp)) (Fr.mono p2 (by intro c k h; omega))
              refine ⟨p2.1, ⟨?_, ?_, ?_⟩, c_flt F (by simp) (by simp) h2, ?_, c_chg F (by simp) (by simp) h4, c_span F (by simp) (by simp) (by simp) (by simp) h5, c_row F (by simp) (by simp) (by simp) (by simp) h6, c_grp F (by simp) (by simp) h7, c_out F (by simp) (by simp) (by simp) (by simp) h8, R_book_Fr F (by unfold inBk; intro c hc k; omega) (by simp) (by simp) (by simp) h9⟩
              · rw [(p2.2 1 1 (by simp)).1, (p2.2 304 2 (by simp)).1]
                simp [rdI]
              · rw [(p2.2 1 1 (by simp)).1]
                simp [rdI]
                exact bN0 _
              · rw [F.eI (c := 2) (by simp), F.eI (c := 305) (by simp)]
                exact h1.2.2
              · intro i hi
                rw [p3, (p2.2 147 i (by simp)).1]
                simp [rdI]
                rw [q3, Nat.mul_comm x 4, Nat.add_zero]
                by_cases c5 : (4 * x + y) * 24 + z ≤ i ∧ i < (4 * x + y) * 24 + z + L / 2
                · rw [if_pos c5, if_pos c5]
                  exact ⟨rfl, _, c3 _ (by omega) (by omega), rfl⟩
                · rw [if_neg c5, if_neg c5, (q2.2 318 i (by simp)).1]
                  exact h3 i hi
          · rw [if_neg c3] at e47
            refine no (by rw [tk, if_pos cc, e47]) (fun τ k1 k2 k3 => ?_)
            rw [mk τ k1 k2, if_pos cc, e64 τ k1 k3, if_neg c3]
        · refine no (by rw [tk, if_neg cc]) (fun τ k1 k2 k3 => ?_)
          rw [mk τ k1 k2, if_neg cc]
      · refine no ?_ (fun τ k1 k2 k3 => ?_)
        · unfold fX7_take fX7_slot
          rw [w_0, w_3, w_23, w2 σ, b2s, if_neg (by decide), w4 σ, b2s, if_neg (by decide), w6 σ, b2s, if_pos (by decide)]
          show b2 (some (-1, σ)) _ = _
          rw [b2s, u_fI1 hS, bs, bd_, if_pos rfl]
          rfl
        · rw [pre τ k1 k2, w_4, w1, b2s, if_neg (by decide), w3, b2s, if_neg (by decide), w_24, w5, b2s, if_pos (by decide)]
          rfl
    · refine no ?_ (fun τ k1 k2 k3 => ?_)
      · unfold fX7_take fX7_slot
        rw [w_0, w_3, w_23, w2 σ, b2s, if_neg (by decide), w4 σ, b2s, if_pos (by decide)]
        show b2 (some (-1, σ)) _ = _
        rw [b2s, u_fI1 hS, bs, bd_, if_pos rfl]
        rfl
      · rw [pre τ k1 k2, w_4, w1, b2s, if_neg (by decide), w3, b2s, if_pos (by decide)]
        rfl
  · refine no ?_ (fun τ k1 k2 k3 => ?_)
    · unfold fX7_take fX7_slot
      rw [w_0, w_3, w_23, w2 σ, b2s, if_pos (by decide)]
      show b2 (some (-1, σ)) _ = _
      rw [b2s, u_fI1 hS, bs, bd_, if_pos rfl]
      rfl
    · rw [pre τ k1 k2, w_4, w1, b2s, if_pos (by decide)]
      rfl
