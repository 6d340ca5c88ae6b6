/-! feed and uses -/
theorem by_sh (x : Int32) (s : Nat) (hs : s = 24 ∨ s = 16 ∨ s = 8 ∨ s = 0) : (vp_nar .byte ((x >>> (nI s &&& 31) : Int32).toInt8.toInt32)) &&& 255 = (((x.toUInt32 >>> ((nI s).toUInt32 &&& Int32.toUInt32 31)).toInt32) &&& 255) := by
  have k (y : Int32) : vp_nar .byte (y.toInt8.toInt32) = y.toInt8.toInt32 := by
    show y.toInt8.toInt32.toInt8.toInt32 = _
    simp
  rw [k]
  apply Int32.toBitVec_inj.mp
  rw [Int32.toBitVec_and, Int32.toBitVec_and]
  apply BitVec.eq_of_getLsbD_eq
  intro i hi
  have h255 : ((255 : Int32).toBitVec.getLsbD i) = decide (i < 8) := by
    rw [show (255 : Int32).toBitVec = 255#32 from rfl]
    have : ∀ j, j < 32 → (255#32).getLsbD j = decide (j < 8) := by decide
    exact this i hi
  rw [BitVec.getLsbD_and, BitVec.getLsbD_and, h255]
  by_cases h8 : i < 8
  · have e1 : ((x >>> (nI s &&& 31)).toInt8.toInt32.toBitVec).getLsbD i = x.toBitVec.getLsbD (s + i) := by
      rw [Int8.toBitVec_toInt32, Int32.toBitVec_toInt8, BitVec.getLsbD_signExtend, Int32.toBitVec_shiftRight, BitVec.getLsbD_setWidth]
      rcases hs with rfl | rfl | rfl | rfl
      all_goals
        simp only [BitVec.sshiftRight_eq', BitVec.getLsbD_sshiftRight, h8, hi]
      · rw [show ((nI 24 &&& 31).toBitVec.smod 32).toNat = 24 by decide]; simp [h8, show 24 + i < 32 by omega]; omega
      · rw [show ((nI 16 &&& 31).toBitVec.smod 32).toNat = 16 by decide]; simp [h8, show 16 + i < 32 by omega]; omega
      · rw [show ((nI 8 &&& 31).toBitVec.smod 32).toNat = 8 by decide]; simp [h8, show 8 + i < 32 by omega]; omega
      · rw [show ((nI 0 &&& 31).toBitVec.smod 32).toNat = 0 by decide]; simp [h8, show i < 32 by omega]
    have e2 : (((x.toUInt32 >>> ((nI s).toUInt32 &&& Int32.toUInt32 31)).toInt32).toBitVec).getLsbD i = x.toBitVec.getLsbD (s + i) := by
      show ((x.toUInt32 >>> ((nI s).toUInt32 &&& Int32.toUInt32 31)).toBitVec).getLsbD i = _
      rw [UInt32.toBitVec_shiftRight]
      show (x.toBitVec >>> (((nI s).toUInt32 &&& Int32.toUInt32 31).toBitVec % 32)).getLsbD i = _
      rw [BitVec.ushiftRight_eq', BitVec.getLsbD_ushiftRight]
      rcases hs with rfl | rfl | rfl | rfl
      · rw [show (((nI 24).toUInt32 &&& Int32.toUInt32 31).toBitVec % 32).toNat = 24 by decide]
      · rw [show (((nI 16).toUInt32 &&& Int32.toUInt32 31).toBitVec % 32).toNat = 16 by decide]
      · rw [show (((nI 8).toUInt32 &&& Int32.toUInt32 31).toBitVec % 32).toNat = 8 by decide]
      · rw [show (((nI 0).toUInt32 &&& Int32.toUInt32 31).toBitVec % 32).toNat = 0 by decide]
    rw [e1, e2]
  · simp [h8]
theorem feed1 (x : Int32) {σ τ : Mem} {s L : Nat} (hs : s = 24 ∨ s = 16 ∨ s = 8 ∨ s = 0) (hσ : ST σ) (hτ : ST τ) (hL : L < 840) (e : gI σ 1 1 = nI L) (r : R_tape (gI σ 1 1) (gI σ 2) (gI τ 304 2) (gI τ 305)) : ∃ σ' τ', (∀ n, fX6_append_b3 (n + 1) 1 x (nI s) σ = fX6_append_b3 n 1 x (nI s + -8) σ') ∧ (∀ n, fX9_come_b3 (n + 1) 304 x (nI s) τ = fX9_come_b3 n 304 x (nI s + -8) τ') ∧ Fr (fun c k => c = 2 ∨ (c = 1 ∧ k = 1)) σ σ' ∧ Fr (fun c k => c = 305 ∨ (c = 304 ∧ k = 2)) τ τ' ∧ gI σ' 1 1 = nI (L + 1) ∧ R_tape (gI σ' 1 1) (gI σ' 2) (gI τ' 304 2) (gI τ' 305) := by
  have e' : gI τ 304 2 = nI L := r.1.symm.trans e
  refine ⟨sI (sI σ 2 L (vp_nar .byte ((x >>> (nI s &&& 31) : Int32).toInt8.toInt32))) 1 1 (nI (L + 1)), sI (sI τ 305 L (((x.toUInt32 >>> ((nI s).toUInt32 &&& Int32.toUInt32 31)).toInt32) &&& 255)) 304 2 (nI (L + 1)), fun n => ?_, fun n => ?_, Fr.cI (Fr.cI (Fr.refl hσ) (by simp)) (by simp), Fr.cI (Fr.cI (Fr.refl hτ) (by simp)) (by simp), gI_sI1, ?_⟩
  · show (if nI s < 0 then fX6_append_b46 σ else _) = _
    rw [if_neg (nI_pos (by omega)), u_fI1 hσ, bs, e, if_neg (by rw [w_840]; exact nI_ge hL (by decide)), u_R1_0 hσ, bs, bs, u_w2 hσ hL, bs, u_fI1 (q_sI hσ _ _ _), bs, gI_sI2 (by omega), e, u_pI1 (q_sI hσ _ _ _), bs, nI_1]
    rfl
  · show (if nI s < 0 then fX9_come_b39 τ else _) = _
    rw [if_neg (nI_pos (by omega)), u_R304_1 hτ, bs, u_fI304 hτ, bs, e', u_w305 hτ hL, bs, u_fI304 (q_sI hτ _ _ _), bs, gI_sI2 (by omega), e', u_pI304 (q_sI hτ _ _ _), bs, nI_1]
    rfl
  · refine ⟨by simp [rdI], ⟨L + 1, by omega, by simp [rdI]⟩, fun j hj => ?_⟩
    by_cases c : j = L
    · subst c
      simp only [rdI]
      simp
      refine ⟨(by_sh x s hs).symm, ?_⟩
      exact ⟨_, by have := Nat.mod_lt ((x.toUInt32 >>> ((nI s).toUInt32 &&& Int32.toUInt32 31)).toInt32).toBitVec.toNat (show 2 ^ 8 > 0 by decide); omega, pk_and _ 8 (by decide)⟩
    · simp only [rdI]
      simp [c]
      exact r.2.2 j hj
theorem feed4 (x : Int32) {σ τ : Mem} {L : Nat} (hσ : ST σ) (hτ : ST τ) (hL : L + 4 ≤ 840) (e : gI σ 1 1 = nI L) (r : R_tape (gI σ 1 1) (gI σ 2) (gI τ 304 2) (gI τ 305)) : ∃ σ' τ', fX6_append 1 x σ = some σ' ∧ fX9_come 304 x τ = some τ' ∧ Fr (fun c k => c = 2 ∨ (c = 1 ∧ k = 1)) σ σ' ∧ Fr (fun c k => c = 305 ∨ (c = 304 ∧ k = 2)) τ τ' ∧ gI σ' 1 1 = nI (L + 4) ∧ R_tape (gI σ' 1 1) (gI σ' 2) (gI τ' 304 2) (gI τ' 305) := by
  obtain ⟨σ1, τ1, a1, b1, c1, d1, e1, r1⟩ := feed1 x (s := 24) (by simp) hσ hτ (by omega) e r
  obtain ⟨σ2, τ2, a2, b2, c2, d2, e2, r2⟩ := feed1 x (s := 16) (by simp) c1.1 d1.1 (by omega) e1 r1
  obtain ⟨σ3, τ3, a3, b3, c3, d3, e3, r3⟩ := feed1 x (s := 8) (by simp) c2.1 d2.1 (by omega) e2 r2
  obtain ⟨σ4, τ4, a4, b4, c4, d4, e4, r4⟩ := feed1 x (s := 0) (by simp) c3.1 d3.1 (by omega) e3 r3
  refine ⟨σ4, τ4, ?_, ?_, ((c1.tr c2).tr c3).tr c4, ((d1.tr d2).tr d3).tr d4, e4, r4⟩
  · show fX6_append_b3 (999995 + 1 + 1 + 1 + 1 + 1) 1 x (nI 24) σ = _
    rw [a1, show nI 24 + -8 = nI 16 by decide, a2, show nI 16 + -8 = nI 8 by decide, a3, show nI 8 + -8 = nI 0 by decide, a4]
    rfl
  · show fX9_come_b3 (999995 + 1 + 1 + 1 + 1 + 1) 304 x (nI 24) τ = _
    rw [b1, show nI 24 + -8 = nI 16 by decide, b2, show nI 16 + -8 = nI 8 by decide, b3, show nI 8 + -8 = nI 0 by decide, b4]
    rfl
theorem op_feed (a b c d f : Int32) : OpI Rel (fX8_feed 0 a b c d f) (fX9_feed 304 a b c d f) := by
  intro σ h
  have hS := h.1
  have hS1 := q_sI hS 304 0 0
  have hT := Rel_th h 0
  obtain ⟨h0, h1, h2, h3, h4, h5, h6, h7, h8, h9⟩ := h
  obtain ⟨r1, ⟨L, hL, r2⟩, r3⟩ := h1
  have g0 : gI (sI σ 304 0 0) 304 2 = nI L := (gI_sI2 (by decide)).trans (r1.symm.trans r2)
  by_cases k : L + 20 ≤ 840
  · sorry
  · refine ⟨-1, σ, sI σ 304 0 0, ?_, k9 hS, ?_, hT⟩
    · unfold fX8_feed
      rw [u_R0_0 hS, bs, u_fI1 hS, bs, r2, w_20, w_840, nI_add, if_neg (nI_ge (by omega) (by omega))]
    · unfold fX9_feed
      rw [u_pI304 hS, bs, u_fI304 hS1, bs, g0, w_20, w_840, nI_add, if_neg (nI_ge (by omega) (by omega))]
