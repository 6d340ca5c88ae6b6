/-! the relation's parts, and what leaves them as they are -/
section
variable {p : Nat → Nat → Prop} {σ τ : Mem} (h : Fr p σ τ)
theorem c_tape (h : Fr p σ τ) (h1 : ¬ p 1 1) (h2 : ∀ k, ¬ p 2 k) (h3 : ¬ p 304 2) (h4 : ∀ k, ¬ p 305 k) (r : R_tape (gI σ 1 1) (gI σ 2) (gI σ 304 2) (gI σ 305)) : R_tape (gI τ 1 1) (gI τ 2) (gI τ 304 2) (gI τ 305) := by
  rw [(h.2 _ _ h1).1, h.eI h2, (h.2 _ _ h3).1, h.eI h4]; exact r
theorem c_flt (h : Fr p σ τ) (h1 : ¬ p 3 4) (h2 : ¬ p 304 8) (r : gI σ 3 4 = gI σ 304 8) : gI τ 3 4 = gI τ 304 8 := by
  rw [(h.2 _ _ h1).1, (h.2 _ _ h2).1]; exact r
theorem c_use (h : Fr p σ τ) (h1 : ∀ k, ¬ p 147 k) (h2 : ∀ k, ¬ p 318 k) (r : R_use (gI σ 147) (gI σ 318)) : R_use (gI τ 147) (gI τ 318) := by
  rw [h.eI h1, h.eI h2]; exact r
theorem c_chg (h : Fr p σ τ) (h1 : ¬ p 0 9) (h2 : ¬ p 304 28) (r : R_chg (gI σ 0 9) (gI σ 304 28)) : R_chg (gI τ 0 9) (gI τ 304 28) := by
  rw [(h.2 _ _ h1).1, (h.2 _ _ h2).1]; exact r
theorem c_span (h : Fr p σ τ) (h1 : ∀ k, ¬ p 159 k) (h2 : ∀ k, ¬ p 160 k) (h3 : ∀ k, ¬ p 328 k) (h4 : ∀ k, ¬ p 329 k) (r : R_span (gI σ 159) (gI σ 160) (gI σ 328) (gI σ 329)) : R_span (gI τ 159) (gI τ 160) (gI τ 328) (gI τ 329) := by
  rw [h.eI h1, h.eI h2, h.eI h3, h.eI h4]; exact r
theorem c_row (h : Fr p σ τ) (h1 : ∀ k, ¬ p 161 k) (h2 : ¬ p 304 34) (h3 : ¬ p 304 35) (h4 : ∀ k, ¬ p 323 k) (r : R_row (gI σ 161) (gI σ 304 34) (gI σ 304 35) (gI σ 323)) : R_row (gI τ 161) (gI τ 304 34) (gI τ 304 35) (gI τ 323) := by
  rw [h.eI h1, (h.2 _ _ h2).1, (h.2 _ _ h3).1, h.eI h4]; exact r
theorem c_grp (h : Fr p σ τ) (h1 : ∀ k, ¬ p 158 k) (h2 : ∀ k, ¬ p 327 k) (r : R_grp (gI σ 158) (gI σ 327)) : R_grp (gI τ 158) (gI τ 327) := by
  rw [h.eI h1, h.eI h2]; exact r
theorem c_out (h : Fr p σ τ) (h1 : ¬ p 0 11) (h2 : ¬ p 0 10) (h3 : ¬ p 304 26) (h4 : ∀ k, ¬ p 317 k) (r : R_out (gI σ 0 11) (gJ σ 0 10) (gI σ 304 26) (gI σ 317)) : R_out (gI τ 0 11) (gJ τ 0 10) (gI τ 304 26) (gI τ 317) := by
  rw [(h.2 _ _ h1).1, (h.2 _ _ h2).2.1, (h.2 _ _ h3).1, h.eI h4]; exact r
theorem Rel_Fr (h : Fr p σ τ) (hp : ∀ c k, p c k → ¬ rl c k) (r : Rel σ) : Rel τ := by
  obtain ⟨-, h1, h2, h3, h4, h5, h6, h7, h8, h9⟩ := r
  have k (c j : Nat) (hr : rl c j) : ¬ p c j := fun x => hp c j x hr
  refine ⟨h.1, c_tape h (k _ _ ?_) (fun _ => k _ _ ?_) (k _ _ ?_) (fun _ => k _ _ ?_) h1, c_flt h (k _ _ ?_) (k _ _ ?_) h2, c_use h (fun _ => k _ _ ?_) (fun _ => k _ _ ?_) h3, c_chg h (k _ _ ?_) (k _ _ ?_) h4, c_span h (fun _ => k _ _ ?_) (fun _ => k _ _ ?_) (fun _ => k _ _ ?_) (fun _ => k _ _ ?_) h5, c_row h (fun _ => k _ _ ?_) (k _ _ ?_) (k _ _ ?_) (fun _ => k _ _ ?_) h6, c_grp h (fun _ => k _ _ ?_) (fun _ => k _ _ ?_) h7, c_out h (k _ _ ?_) (k _ _ ?_) (k _ _ ?_) (fun _ => k _ _ ?_) h8, R_book_Fr h (fun c hc j => k _ _ ?_) (k _ _ ?_) (k _ _ ?_) (k _ _ ?_) h9⟩ <;> unfold rl <;> first | omega | skip
  repeat (first | exact hc | apply Or.inr)
end
theorem Rel_th {σ : Mem} (h : Rel σ) (v : Int32) : Rel (sI σ 304 0 v) := Rel_Fr (p := fun c k => c = 304 ∧ k = 0) (FrsI h.1 ⟨rfl, rfl⟩) (by rintro c k ⟨rfl, rfl⟩; unfold rl inBk; omega) h
theorem k9 {σ : Mem} (h : ST σ) : kd σ 304 = 9 := q_k h (by decide) rfl
theorem op_fault : OpI Rel (fX8_fault 0) (fX9_fault 304) := by
  intro σ h
  have hS := h.1
  refine ⟨gI σ 3 4, σ, sI σ 304 0 0, ?_, k9 hS, ?_, Rel_th h 0⟩
  · unfold fX8_fault
    simp (disch := (first | assumption | omega | rfl | (repeat (first | assumption | apply q_sI | apply q_sJ)))) only [bs, b2s, bd_, u_fI0, u_fJ0, u_pI0, u_pJ0, u_kT0, u_R0_0, u_R0_1, u_R0_2, u_R0_3, u_R0_4, u_R0_5, u_R0_6, u_R0_7, u_R0_8, u_P0_8, u_fI1, u_fJ1, u_pI1, u_pJ1, u_kT1, u_R1_0, u_fI3, u_fJ3, u_pI3, u_pJ3, u_kT3, u_R3_0, u_R3_1, u_P3_1, u_R3_2, u_P3_2, u_R3_3, u_P3_3, u_fI146, u_fJ146, u_pI146, u_pJ146, u_kT146, u_R146_0, u_R146_1, u_fI149, u_fJ149, u_pI149, u_pJ149, u_kT149, u_R149_0, u_R149_1, u_R149_2, u_R149_3, u_R149_4, u_P149_4, u_fI154, u_fJ154, u_pI154, u_pJ154, u_kT154, u_R154_0, u_R154_1, u_R154_2, u_R154_3, u_a2, u_w2, u_a147, u_w147, u_l147, u_a148, u_w148, u_l148, u_a150, u_w150, u_a151, u_w151, u_a152, u_w152, u_a153, u_w153, u_a155, u_w155, u_a156, u_w156, u_a157, u_w157, u_a158, u_w158, u_a159, u_w159, u_a160, u_w160, u_a161, u_w161, u_l161, v_fIB, v_pIB, v_kTB, v_RB, v_aE, v_fIP, v_fJP, v_pIP, v_pJP, v_kTP, v_RP, v_aP, v_fIT, v_pIT, v_kTT, v_RT0, v_RT1, v_aT1, v_aT2, v_wT1, v_wT2, u_fI304, u_fJ304, u_pI304, u_pJ304, u_kT304, u_R304_1, u_R304_11, u_R304_12, u_R304_13, u_R304_14, u_R304_15, u_R304_16, u_R304_17, u_R304_18, u_R304_19, u_R304_20, u_R304_21, u_R304_25, u_R304_27, u_R304_29, u_R304_30, u_R304_31, u_R304_32, u_R304_33, u_R304_36, u_R304_37, u_R304_38, u_R304_39, u_R304_40, u_R304_41, u_a305, u_w305, u_a306, u_w306, u_a307, u_w307, u_a308, u_w308, u_a309, u_w309, u_a310, u_w310, u_a311, u_w311, u_a312, u_w312, u_a313, u_w313, u_a314, u_w314, u_a315, u_w315, u_a316, u_w316, u_a317, u_w317, u_a318, u_w318, u_a319, u_w319, u_a320, u_w320, u_a321, u_w321, u_a322, u_w322, u_a323, u_w323, u_a324, u_w324, u_a325, u_w325, u_a326, u_w326, u_a327, u_w327, u_a328, u_w328, u_a329, u_w329, u_a330, u_w330, w_0, w_1, w_2, w_3, w_4, w_5, w_6, w_7, w_8, w_9, w_10, w_11, w_12, w_15, w_16, w_20, w_22, w_23, w_24, w_25, w_27, w_31, w_32, w_48, w_57, w_59, w_97, w_96, w_122, w_250, w_255, w_256, w_800, w_840, w_9999, w_20000, w_100000, w_999999, nI_add, pk_mul, nI_leI, nI_ltI, nI_eq]
  · unfold fX9_fault
    simp (disch := (first | assumption | omega | rfl | (repeat (first | assumption | apply q_sI | apply q_sJ)))) only [bs, b2s, bd_, u_fI0, u_fJ0, u_pI0, u_pJ0, u_kT0, u_R0_0, u_R0_1, u_R0_2, u_R0_3, u_R0_4, u_R0_5, u_R0_6, u_R0_7, u_R0_8, u_P0_8, u_fI1, u_fJ1, u_pI1, u_pJ1, u_kT1, u_R1_0, u_fI3, u_fJ3, u_pI3, u_pJ3, u_kT3, u_R3_0, u_R3_1, u_P3_1, u_R3_2, u_P3_2, u_R3_3, u_P3_3, u_fI146, u_fJ146, u_pI146, u_pJ146, u_kT146, u_R146_0, u_R146_1, u_fI149, u_fJ149, u_pI149, u_pJ149, u_kT149, u_R149_0, u_R149_1, u_R149_2, u_R149_3, u_R149_4, u_P149_4, u_fI154, u_fJ154, u_pI154, u_pJ154, u_kT154, u_R154_0, u_R154_1, u_R154_2, u_R154_3, u_a2, u_w2, u_a147, u_w147, u_l147, u_a148, u_w148, u_l148, u_a150, u_w150, u_a151, u_w151, u_a152, u_w152, u_a153, u_w153, u_a155, u_w155, u_a156, u_w156, u_a157, u_w157, u_a158, u_w158, u_a159, u_w159, u_a160, u_w160, u_a161, u_w161, u_l161, v_fIB, v_pIB, v_kTB, v_RB, v_aE, v_fIP, v_fJP, v_pIP, v_pJP, v_kTP, v_RP, v_aP, v_fIT, v_pIT, v_kTT, v_RT0, v_RT1, v_aT1, v_aT2, v_wT1, v_wT2, u_fI304, u_fJ304, u_pI304, u_pJ304, u_kT304, u_R304_1, u_R304_11, u_R304_12, u_R304_13, u_R304_14, u_R304_15, u_R304_16, u_R304_17, u_R304_18, u_R304_19, u_R304_20, u_R304_21, u_R304_25, u_R304_27, u_R304_29, u_R304_30, u_R304_31, u_R304_32, u_R304_33, u_R304_36, u_R304_37, u_R304_38, u_R304_39, u_R304_40, u_R304_41, u_a305, u_w305, u_a306, u_w306, u_a307, u_w307, u_a308, u_w308, u_a309, u_w309, u_a310, u_w310, u_a311, u_w311, u_a312, u_w312, u_a313, u_w313, u_a314, u_w314, u_a315, u_w315, u_a316, u_w316, u_a317, u_w317, u_a318, u_w318, u_a319, u_w319, u_a320, u_w320, u_a321, u_w321, u_a322, u_w322, u_a323, u_w323, u_a324, u_w324, u_a325, u_w325, u_a326, u_w326, u_a327, u_w327, u_a328, u_w328, u_a329, u_w329, u_a330, u_w330, w_0, w_1, w_2, w_3, w_4, w_5, w_6, w_7, w_8, w_9, w_10, w_11, w_12, w_15, w_16, w_20, w_22, w_23, w_24, w_25, w_27, w_31, w_32, w_48, w_57, w_59, w_97, w_96, w_122, w_250, w_255, w_256, w_800, w_840, w_9999, w_20000, w_100000, w_999999, nI_add, pk_mul, nI_leI, nI_ltI, nI_eq, gI_sJ, gI_sR, gJ_sI, gJ_sR, gR_sI, gR_sJ, gI_sI1, gJ_sJ1, gR_sR1, gI_sI2, gJ_sJ2, gR_sR2]
    rw [h.2.2.1]
theorem op_change (a : Int32) : OpI Rel (fX8_change 0 a) (fX9_change 304 a) := by
  intro σ h
  have hS := h.1
  have hT := Rel_th h 0
  unfold OpI at *
  by_cases c1 : a < 0
  · refine ⟨0, σ, sI σ 304 0 0, ?_, k9 hS, ?_, hT⟩
    · unfold fX8_change; rw [if_pos c1]; rfl
    · unfold fX9_change; rw [u_pI304 hS, bs, if_pos c1]; rfl
  by_cases c2 : a ≤ 100000
  · obtain ⟨t, ht, hta⟩ := nI_of2 (M := 100000) (n := 100000) rfl c1 c2
    refine ⟨1, sI σ 0 9 a, sI (sI (sI σ 0 9 a) 304 0 0) 304 28 a, ?_, k9 hS, ?_, ?_⟩
    · unfold fX8_change; rw [if_neg c1, if_pos c2, u_pI0 hS]; rfl
    · unfold fX9_change; rw [u_pI304 (q_sI hS _ _ _), bs, if_neg c1, if_pos c2, u_pI304 (q_sI (q_sI hS _ _ _) _ _ _)]; rfl
    · obtain ⟨h0, h1, h2, h3, h4, h5, h6, h7, h8, h9⟩ := h
      have F : Fr (fun c k => (c = 0 ∧ k = 9) ∨ (c = 304 ∧ (k = 0 ∨ k = 28))) σ (sI (sI (sI σ 0 9 a) 304 0 0) 304 28 a) := Fr.cI (Fr.cI (Fr.cI (Fr.refl hS) (by simp)) (by simp)) (by simp)
      refine ⟨h0, c_tape F (by simp) (by simp) (by simp) (by simp) h1, c_flt F (by simp) (by simp) h2, c_use F (by simp) (by simp) h3, ⟨?_, ?_⟩, c_span F (by simp) (by simp) (by simp) (by simp) h5, c_row F (by simp) (by simp) (by simp) (by simp) h6, c_grp F (by simp) (by simp) h7, c_out F (by simp) (by simp) (by simp) (by simp) h8, R_book_Fr F (by unfold inBk; intro c hc k; omega) (by simp) (by simp) (by simp) h9⟩
      · simp [gI_sI1, gI_sI2]
      · simp only [gI_sI1, gI_sI2, show ¬ (0 = 304 ∧ 9 = 28) by decide, show ¬ (0 = 304 ∧ 9 = 0) by decide, not_false_eq_true]
        exact ⟨t, ht, hta⟩
  · refine ⟨0, σ, sI σ 304 0 0, ?_, k9 hS, ?_, hT⟩
    · unfold fX8_change; rw [if_neg c1, if_neg c2]; rfl
    · unfold fX9_change; rw [u_pI304 hS, bs, if_neg c1, if_neg c2]; rfl

theorem iw {x : Int32} {σ : Mem} {a b : Nat} (ha : a < 2 ^ 31) (hb : b < 2 ^ 31) : (∃ t : Nat, a ≤ t ∧ t ≤ b ∧ x = nI t ∧ fX8_isWithin x (nI a) (nI b) σ = some (1, σ)) ∨ ((x < nI a ∨ nI b < x) ∧ fX8_isWithin x (nI a) (nI b) σ = some (0, σ)) := by
  unfold fX8_isWithin
  by_cases c1 : x < nI a
  · exact Or.inr ⟨Or.inl c1, by rw [if_pos c1]; rfl⟩
  · by_cases c2 : nI b < x
    · exact Or.inr ⟨Or.inr c2, by rw [if_neg c1, if_pos c2]; rfl⟩
    · refine Or.inl ?_
      have e1 : ¬ x.toInt < (a : Int) := by rw [← nI_toInt ha, ← Int32.lt_iff_toInt_lt]; exact c1
      have e2 : ¬ (b : Int) < x.toInt := by rw [← nI_toInt hb, ← Int32.lt_iff_toInt_lt]; exact c2
      refine ⟨x.toInt.toNat, by omega, by omega, ?_, by rw [if_neg c1, if_neg c2]; rfl⟩
      apply Int32.toInt_inj.mp
      rw [nI_toInt (by omega)]
      omega
theorem iwN {t a b : Nat} {σ : Mem} (ht : t < 2 ^ 31) (ha : a < 2 ^ 31) (hb : b < 2 ^ 31) : fX8_isWithin (nI t) (nI a) (nI b) σ = some (if a ≤ t ∧ t ≤ b then 1 else 0, σ) := by
  unfold fX8_isWithin
  simp only [nI_ltI ht ha, nI_ltI hb ht]
  by_cases c1 : t < a
  · rw [if_pos c1, if_neg (by omega)]; rfl
  · rw [if_neg c1]
    by_cases c2 : b < t
    · rw [if_pos c2, if_neg (by omega)]; rfl
    · rw [if_neg c2, if_pos (by omega)]; rfl
theorem op_end (a : Int32) : OpI Rel (fX8_end 0 a) (fX9_end 304 a) := by
  intro σ h
  have hS := h.1
  have hT := Rel_th h 0
  obtain ⟨e1, ⟨n, hn, e2⟩, e3⟩ := h.2.1
  by_cases c1 : a < 0
  · refine ⟨0, σ, sI σ 304 0 0, ?_, k9 hS, ?_, hT⟩
    · unfold fX8_end; rw [if_pos c1]; rfl
    · unfold fX9_end; rw [u_pI304 hS, bs, if_pos c1]; rfl
  obtain ⟨t, ht, rfl⟩ := nI_of c1
  by_cases c2 : t ≤ n
  · refine ⟨1, sI σ 1 1 (nI t), sI (sI (sI σ 1 1 (nI t)) 304 0 0) 304 2 (nI t), ?_, k9 hS, ?_, ?_⟩
    · unfold fX8_end; rw [if_neg c1]
      simp (disch := (first | assumption | omega | rfl | (repeat (first | assumption | apply q_sI | apply q_sJ)))) only [bs, b2s, bd_, u_fI0, u_fJ0, u_pI0, u_pJ0, u_kT0, u_R0_0, u_R0_1, u_R0_2, u_R0_3, u_R0_4, u_R0_5, u_R0_6, u_R0_7, u_R0_8, u_P0_8, u_fI1, u_fJ1, u_pI1, u_pJ1, u_kT1, u_R1_0, u_fI3, u_fJ3, u_pI3, u_pJ3, u_kT3, u_R3_0, u_R3_1, u_P3_1, u_R3_2, u_P3_2, u_R3_3, u_P3_3, u_fI146, u_fJ146, u_pI146, u_pJ146, u_kT146, u_R146_0, u_R146_1, u_fI149, u_fJ149, u_pI149, u_pJ149, u_kT149, u_R149_0, u_R149_1, u_R149_2, u_R149_3, u_R149_4, u_P149_4, u_fI154, u_fJ154, u_pI154, u_pJ154, u_kT154, u_R154_0, u_R154_1, u_R154_2, u_R154_3, u_a2, u_w2, u_a147, u_w147, u_l147, u_a148, u_w148, u_l148, u_a150, u_w150, u_a151, u_w151, u_a152, u_w152, u_a153, u_w153, u_a155, u_w155, u_a156, u_w156, u_a157, u_w157, u_a158, u_w158, u_a159, u_w159, u_a160, u_w160, u_a161, u_w161, u_l161, v_fIB, v_pIB, v_kTB, v_RB, v_aE, v_fIP, v_fJP, v_pIP, v_pJP, v_kTP, v_RP, v_aP, v_fIT, v_pIT, v_kTT, v_RT0, v_RT1, v_aT1, v_aT2, v_wT1, v_wT2, w_0, w_1, w_2, w_3, w_4, w_5, w_6, w_7, w_8, w_9, w_10, w_11, w_12, w_15, w_16, w_20, w_22, w_23, w_24, w_25, w_27, w_31, w_32, w_48, w_57, w_59, w_97, w_96, w_122, w_250, w_255, w_256, w_800, w_840, w_9999, w_20000, w_100000, w_999999, nI_add, pk_mul, nI_leI, nI_ltI, nI_eq, e2, c2, if_true]
    · unfold fX9_end; rw [u_pI304 (q_sI hS _ _ _), bs, if_neg c1, u_fI304 (q_sI (q_sI hS _ _ _) _ _ _), bs, gI_sI2 (by decide), gI_sI2 (by decide), ← e1, e2, if_pos (by rw [nI_leI ht (by omega)]; exact c2), u_pI304 (q_sI (q_sI hS _ _ _) _ _ _)]
      rfl
    · obtain ⟨h0, h1, h2, h3, h4, h5, h6, h7, h8, h9⟩ := h
      have F : Fr (fun c k => (c = 1 ∧ k = 1) ∨ (c = 304 ∧ (k = 0 ∨ k = 2))) σ (sI (sI (sI σ 1 1 (nI t)) 304 0 0) 304 2 (nI t)) := Fr.cI (Fr.cI (Fr.cI (Fr.refl hS) (by simp)) (by simp)) (by simp)
      refine ⟨h0, ⟨?_, ?_, ?_⟩, c_flt F (by simp) (by simp) h2, c_use F (by simp) (by simp) h3, c_chg F (by simp) (by simp) h4, c_span F (by simp) (by simp) (by simp) (by simp) h5, c_row F (by simp) (by simp) (by simp) (by simp) h6, c_grp F (by simp) (by simp) h7, c_out F (by simp) (by simp) (by simp) (by simp) h8, R_book_Fr F (by unfold inBk; intro c hc k; omega) (by simp) (by simp) (by simp) h9⟩
      · simp [gI_sI1, gI_sI2]
      · simp [gI_sI1, gI_sI2]
        exact ⟨t, by omega, rfl⟩
      · rw [F.eI (by simp), F.eI (by simp)]
        exact e3
  · refine ⟨0, σ, sI σ 304 0 0, ?_, k9 hS, ?_, hT⟩
    · unfold fX8_end; rw [if_neg c1]
      simp (disch := (first | assumption | omega | rfl | (repeat (first | assumption | apply q_sI | apply q_sJ)))) only [bs, b2s, bd_, u_fI0, u_fJ0, u_pI0, u_pJ0, u_kT0, u_R0_0, u_R0_1, u_R0_2, u_R0_3, u_R0_4, u_R0_5, u_R0_6, u_R0_7, u_R0_8, u_P0_8, u_fI1, u_fJ1, u_pI1, u_pJ1, u_kT1, u_R1_0, u_fI3, u_fJ3, u_pI3, u_pJ3, u_kT3, u_R3_0, u_R3_1, u_P3_1, u_R3_2, u_P3_2, u_R3_3, u_P3_3, u_fI146, u_fJ146, u_pI146, u_pJ146, u_kT146, u_R146_0, u_R146_1, u_fI149, u_fJ149, u_pI149, u_pJ149, u_kT149, u_R149_0, u_R149_1, u_R149_2, u_R149_3, u_R149_4, u_P149_4, u_fI154, u_fJ154, u_pI154, u_pJ154, u_kT154, u_R154_0, u_R154_1, u_R154_2, u_R154_3, u_a2, u_w2, u_a147, u_w147, u_l147, u_a148, u_w148, u_l148, u_a150, u_w150, u_a151, u_w151, u_a152, u_w152, u_a153, u_w153, u_a155, u_w155, u_a156, u_w156, u_a157, u_w157, u_a158, u_w158, u_a159, u_w159, u_a160, u_w160, u_a161, u_w161, u_l161, v_fIB, v_pIB, v_kTB, v_RB, v_aE, v_fIP, v_fJP, v_pIP, v_pJP, v_kTP, v_RP, v_aP, v_fIT, v_pIT, v_kTT, v_RT0, v_RT1, v_aT1, v_aT2, v_wT1, v_wT2, w_0, w_1, w_2, w_3, w_4, w_5, w_6, w_7, w_8, w_9, w_10, w_11, w_12, w_15, w_16, w_20, w_22, w_23, w_24, w_25, w_27, w_31, w_32, w_48, w_57, w_59, w_97, w_96, w_122, w_250, w_255, w_256, w_800, w_840, w_9999, w_20000, w_100000, w_999999, nI_add, pk_mul, nI_leI, nI_ltI, nI_eq, e2, c2, if_false]
      rfl
    · unfold fX9_end; rw [u_pI304 hS, bs, if_neg c1, u_fI304 (q_sI hS _ _ _), bs, gI_sI2 (by decide), ← e1, e2, if_neg (by rw [nI_leI ht (by omega)]; exact c2)]
      rfl
theorem inC (x : Int32) {n : Nat} (hn : 0 < n) (hn2 : n < 2 ^ 31) : (∃ t : Nat, t < n ∧ x = nI t ∧ (∀ σ, fX9_isIn x (nI n) σ = some (1, σ)) ∧ ∀ σ, fX8_isWithin x (nI 0) (nI (n - 1)) σ = some (1, σ)) ∨ (¬ (∃ t : Nat, t < n ∧ x = nI t) ∧ (∀ σ, fX9_isIn x (nI n) σ = some (0, σ)) ∧ ∀ σ, fX8_isWithin x (nI 0) (nI (n - 1)) σ = some (0, σ)) := by
  by_cases c1 : x < 0
  · refine Or.inr ⟨?_, fun σ => ?_, fun σ => ?_⟩
    · rintro ⟨t, ht, rfl⟩
      exact nI_pos (by omega) c1
    · unfold fX9_isIn; rw [if_pos c1]; rfl
    · unfold fX8_isWithin; rw [← w_0, if_pos c1]; rfl
  · obtain ⟨t, ht, rfl⟩ := nI_of c1
    by_cases c2 : t < n
    · refine Or.inl ⟨t, c2, rfl, fun σ => ?_, fun σ => ?_⟩
      · unfold fX9_isIn; rw [if_neg c1, if_neg (by rw [nI_leI hn2 ht]; omega)]; rfl
      · rw [iwN ht (by omega) (by omega), if_pos (by omega)]
    · refine Or.inr ⟨?_, fun σ => ?_, fun σ => ?_⟩
      · rintro ⟨t', ht', e⟩
        rw [nI_eq ht (by omega)] at e
        omega
      · unfold fX9_isIn; rw [if_neg c1, if_pos (by rw [nI_leI hn2 ht]; omega)]; rfl
      · rw [iwN ht (by omega) (by omega), if_neg (by omega)]
theorem op_span (a b c : Int32) : OpI Rel (fX8_span 0 a b c) (fX9_span 304 a b c) := by
  intro σ h
  have hS := h.1
  have hT := Rel_th h 0
  have hS1 := q_sI hS 304 0 0
  rcases inC a (n := 4) (by decide) (by decide) with ⟨t, ht, rfl, w1, w2⟩ | ⟨-, w1, w2⟩
  · by_cases c1 : b < 0
    · refine ⟨0, σ, sI σ 304 0 0, ?_, k9 hS, ?_, hT⟩
      · unfold fX8_span; rw [w_0, w_3, w2 σ, b2s, if_neg (by decide), ← w_0, if_pos c1]; rfl
      · unfold fX9_span; rw [u_pI304 hS, bs, w_4, w1, b2s, if_neg (by decide), if_pos c1]; rfl
    by_cases c2 : c < b
    · refine ⟨0, σ, sI σ 304 0 0, ?_, k9 hS, ?_, hT⟩
      · unfold fX8_span; rw [w_0, w_3, w2 σ, b2s, if_neg (by decide), ← w_0, if_neg c1, if_pos c2]; rfl
      · unfold fX9_span; rw [u_pI304 hS, bs, w_4, w1, b2s, if_neg (by decide), if_neg c1, if_pos c2]; rfl
    by_cases c3 : c ≤ 20000
    · have c4 : ¬ c < 0 := fun q => c2 (Int32.lt_of_lt_of_le q (Int32.not_lt.mp c1))
      obtain ⟨y, hy, rfl⟩ := nI_of2 (M := 20000) (n := 20000) rfl c4 c3
      obtain ⟨x, hx, rfl⟩ := nI_of c1
      rw [nI_ltI (by omega) hx] at c2
      refine ⟨1, sI (sI σ 159 t (nI x)) 160 t (nI y), sI (sI (sI (sI (sI σ 159 t (nI x)) 160 t (nI y)) 304 0 0) 328 t (nI x)) 329 t (nI y), ?_, k9 hS, ?_, ?_⟩
      · unfold fX8_span; rw [w_0, w_3, w2 σ, b2s, if_neg (by decide), ← w_0, if_neg c1, if_neg (by rw [nI_ltI (by omega) hx]; exact c2), if_pos c3, u_R0_5 hS, bs, u_w159 hS ht, bs, u_R0_6 (q_sI hS _ _ _), bs, u_w160 (q_sI hS _ _ _) ht]
        rfl
      · have hU := q_sI (q_sI hS 159 t (nI x)) 160 t (nI y)
        unfold fX9_span; rw [u_pI304 hU, bs, w_4, w1, b2s, if_neg (by decide), if_neg c1, if_neg (by rw [nI_ltI (by omega) hx]; exact c2), if_pos c3, u_R304_40 (q_sI hU _ _ _), bs, u_w328 (q_sI hU _ _ _) ht, bs, u_R304_41 (q_sI (q_sI hU _ _ _) _ _ _), bs, u_w329 (q_sI (q_sI hU _ _ _) _ _ _) ht]
        rfl
      · obtain ⟨h0, h1, h2, h3, h4, h5, h6, h7, h8, h9⟩ := h
        have F : Fr (fun c k => c = 159 ∨ c = 160 ∨ (c = 304 ∧ k = 0) ∨ c = 328 ∨ c = 329) σ (sI (sI (sI (sI (sI σ 159 t (nI x)) 160 t (nI y)) 304 0 0) 328 t (nI x)) 329 t (nI y)) := Fr.cI (Fr.cI (Fr.cI (Fr.cI (Fr.cI (Fr.refl hS) (by simp)) (by simp)) (by simp)) (by simp)) (by simp)
        refine ⟨h0, c_tape F (by simp) (by simp) (by simp) (by simp) h1, c_flt F (by simp) (by simp) h2, c_use F (by simp) (by simp) h3, c_chg F (by simp) (by simp) h4, fun i hi => ?_, c_row F (by simp) (by simp) (by simp) (by simp) h6, c_grp F (by simp) (by simp) h7, c_out F (by simp) (by simp) (by simp) (by simp) h8, R_book_Fr F (by unfold inBk; intro c hc k; omega) (by simp) (by simp) (by simp) h9⟩
        by_cases e : i = t
        · subst e
          simp [rdI]
          exact ⟨x, y, by omega, hy, rfl, rfl⟩
        · simp [rdI, e]
          exact h5 i hi
    · refine ⟨0, σ, sI σ 304 0 0, ?_, k9 hS, ?_, hT⟩
      · unfold fX8_span; rw [w_0, w_3, w2 σ, b2s, if_neg (by decide), ← w_0, if_neg c1, if_neg c2, if_neg c3]; rfl
      · unfold fX9_span; rw [u_pI304 hS, bs, w_4, w1, b2s, if_neg (by decide), if_neg c1, if_neg c2, if_neg c3]; rfl
  · refine ⟨0, σ, sI σ 304 0 0, ?_, k9 hS, ?_, hT⟩
    · unfold fX8_span; rw [w_0, w_3, w2 σ, b2s, if_pos (by decide)]; rfl
    · unfold fX9_span; rw [u_pI304 hS, bs, w_4, w1, b2s, if_pos (by decide)]; rfl
theorem op_count (a : Int32) : OpI Rel (fX8_count 0 a) (fX9_count 304 a) := by
  intro σ h
  have hS := h.1
  have hT := Rel_th h 0
  obtain ⟨h0, h1, h2, h3, h4, h5, h6, h7, h8, h9⟩ := h
  obtain ⟨b, b', hb, g1, g2, P, hP, g3, g4, g5⟩ := h9
  have hbb : isB b := by rcases hb with ⟨h, -⟩ | ⟨h, -⟩ <;> simp [isB, h]
  have eo : gI σ 0 11 = gI σ 304 26 := by
    rcases h8 with ⟨q1, q2⟩ | ⟨l, -, q1, q2, -⟩ <;> rw [q1, q2]
  refine ⟨if a = 0 then nI P else if a = 1 then gI σ 0 9 else if a = 2 then gI σ 1 1 else if a = 3 then gI σ 0 11 else -1, σ, sI σ 304 0 0, ?_, k9 hS, ?_, hT⟩
  · unfold fX8_count
    rw [u_R0_8 hS, bs, g1, v_fIB hS hbb, bs, u_fI0 hS, bs, u_R0_0 hS, bs, u_fI1 hS, bs, u_fI0 hS, bs, g3]
    repeat' split
    all_goals rfl
  · unfold fX9_count
    rw [u_pI304 hS, bs]
    simp only [u_fI304 (q_sI hS 304 0 0), bs, gI_sI2 (show ¬ (304 = 304 ∧ 22 = 0) by decide), gI_sI2 (show ¬ (304 = 304 ∧ 28 = 0) by decide), gI_sI2 (show ¬ (304 = 304 ∧ 2 = 0) by decide), gI_sI2 (show ¬ (304 = 304 ∧ 26 = 0) by decide), g4, ← h4.1, ← h1.1, ← eo]
    repeat' split
    all_goals rfl
theorem op_had (a : Int32) : OpI Rel (fX8_had 0 a) (fX9_had 304 a) := by
  intro σ h
  have hS := h.1
  have hS1 := q_sI hS 304 0 0
  have hT := Rel_th h 0
  obtain ⟨h0, h1, h2, h3, h4, h5, ⟨x, y, hxy, hy, r1, r2, r3⟩, h7, h8, h9⟩ := h
  have m1 : gI (sI σ 304 0 0) 304 34 = nI x := (gI_sI2 (by decide)).trans r1
  have m2 : gI (sI σ 304 0 0) 304 35 = nI y := (gI_sI2 (by decide)).trans r2
  have m3 (i : Nat) : gI (sI σ 304 0 0) 323 i = gI σ 323 i := gI_sI2 (by omega)
  rcases inC a (n := 24) (by decide) (by decide) with ⟨t, ht, rfl, w1, w2⟩ | ⟨w0, w1, w2⟩
  · refine ⟨gI σ 161 t, σ, sI σ 304 0 0, ?_, k9 hS, ?_, hT⟩
    · unfold fX8_had; rw [w_0, w_23, w2 σ, b2s, if_neg (by decide), u_R0_7 hS, bs, u_a161 hS ht]; rfl
    · unfold fX9_had
      rw [u_pI304 hS, bs, u_fI304 hS1, bs, u_fI304 hS1, bs, m1, m2, r3 t ht]
      simp only [nI_ltI (show t < 2 ^ 31 by omega) (show x < 2 ^ 31 by omega), nI_ltI (show t < 2 ^ 31 by omega) (show y < 2 ^ 31 by omega)]
      by_cases c1 : t < x
      · rw [if_pos c1, if_neg (by omega)]; rfl
      · rw [if_neg c1]
        by_cases c2 : t < y
        · rw [if_pos c2, u_R304_33 hS1, bs, bs, pk_sub (by omega), u_a323 hS1 (by omega), bs, m3, if_pos (by omega)]; rfl
        · rw [if_neg c2, if_neg (by omega)]; rfl
  · refine ⟨-1, σ, sI σ 304 0 0, ?_, k9 hS, ?_, hT⟩
    · unfold fX8_had; rw [w_0, w_23, w2 σ, b2s, if_pos (by decide)]; rfl
    · unfold fX9_had
      rw [u_pI304 hS, bs, u_fI304 hS1, bs, u_fI304 hS1, bs, m1, m2]
      by_cases c1 : a < nI x
      · rw [if_pos c1]; rfl
      · rw [if_neg c1, if_neg]
        · rfl
        · intro c2
          have c3 : ¬ a < 0 := fun q => c1 (Int32.lt_of_lt_of_le q (nI_pos' (by omega)))
          obtain ⟨t, ht, rfl⟩ := nI_of c3
          rw [nI_ltI ht (by omega)] at c2
          exact w0 ⟨t, by omega, rfl⟩
theorem op_group (a : Int32) : OpI Rel (fX8_group 0 a) (fX9_group 304 a) := by
  intro σ h
  have hS := h.1
  have hS1 := q_sI hS 304 0 0
  have hT := Rel_th h 0
  obtain ⟨h0, h1, h2, h3, h4, h5, h6, h7, h8, h9⟩ := h
  rcases inC a (n := 4) (by decide) (by decide) with ⟨t, ht, rfl, w1, w2⟩ | ⟨w0, w1, w2⟩
  · obtain ⟨⟨g, hg, e1⟩, e2⟩ := h7 t ht
    refine ⟨gI σ 158 t, σ, sI σ 304 0 0, ?_, k9 hS, ?_, hT⟩
    · unfold fX8_group; rw [w_0, w_3, w2 σ, b2s, if_neg (by decide), u_R0_4 hS, bs, u_R154_3 hS, bs, u_a158 hS ht]; rfl
    · unfold fX9_group
      rw [u_pI304 hS, bs, w_4, w1, b2s, if_neg (by decide), u_R304_39 hS1, bs, bs, u_a327 hS1 ht, bs, bs, gI_sI2 (by omega), e2, e1, w_0]
      simp only [nI_leI (show g < 2 ^ 31 by omega) (show 0 < 2 ^ 31 by omega), nI_eq (show g < 2 ^ 31 by omega) (show 0 < 2 ^ 31 by omega)]
      by_cases c : g ≤ 0
      · rw [if_pos c, if_pos (by omega)]; rfl
      · rw [if_neg c, if_neg (by omega)]; rfl
  · refine ⟨-1, σ, sI σ 304 0 0, ?_, k9 hS, ?_, hT⟩
    · unfold fX8_group; rw [w_0, w_3, w2 σ, b2s, if_pos (by decide)]; rfl
    · unfold fX9_group; rw [u_pI304 hS, bs, w_4, w1, b2s, if_pos (by decide)]; rfl
theorem op_use (a b c : Int32) : OpI Rel (fX8_use 0 a b c) (fX9_use 304 a b c) := by
  intro σ h
  have hS := h.1
  have hS1 := q_sI hS 304 0 0
  have hT := Rel_th h 0
  obtain ⟨h0, h1, h2, h3, h4, h5, h6, h7, h8, h9⟩ := h
  rcases inC a (n := 4) (by decide) (by decide) with ⟨t, ht, rfl, w1, w2⟩ | ⟨w0, w1, w2⟩
  · rcases inC b (n := 4) (by decide) (by decide) with ⟨s, hs, rfl, w3, w4⟩ | ⟨w0, w3, w4⟩
    · rcases inC c (n := 24) (by decide) (by decide) with ⟨m, hm, rfl, w5, w6⟩ | ⟨w0, w5, w6⟩
      · refine ⟨gI σ 147 ((t * 4 + s) * 24 + m), σ, sI σ 304 0 0, ?_, k9 hS, ?_, hT⟩
        · unfold fX8_use fX7_at fX7_slot
          rw [u_R0_2 hS, bs, u_kT146 hS, bs, w_0, w_3, w_23, w2 σ, b2s, if_neg (by decide), w4 σ, b2s, if_neg (by decide), w6 σ, b2s, if_neg (by decide), b2s, w_4, w_24, pk_mul, nI_add, pk_mul, nI_add, if_neg (by rw [w_1, m1_ne (by omega)]; exact id), u_R146_0 hS, bs, u_a147 hS (by omega)]
          rfl
        · unfold fX9_use fX9_cell
          rw [u_pI304 hS, bs, w_4, w_24, w1, b2s, if_neg (by decide), w3, b2s, if_neg (by decide), w5, b2s, if_neg (by decide), u_R304_27 hS1, bs, b2s, pk_mul, nI_add, pk_mul, nI_add, u_a318 hS1 (by omega), bs, gI_sI2 (by omega), (h3 _ (by omega)).1, Nat.mul_comm 4 t]
          rfl
      · refine ⟨-1, σ, sI σ 304 0 0, ?_, k9 hS, ?_, hT⟩
        · unfold fX8_use fX7_at fX7_slot
          rw [u_R0_2 hS, bs, u_kT146 hS, bs, w_0, w_3, w_23, w2 σ, b2s, if_neg (by decide), w4 σ, b2s, if_neg (by decide), w6 σ, b2s, if_pos (by decide)]
          rfl
        · unfold fX9_use
          rw [u_pI304 hS, bs, w_4, w_24, w1, b2s, if_neg (by decide), w3, b2s, if_neg (by decide), w5, b2s, if_pos (by decide)]
          rfl
    · refine ⟨-1, σ, sI σ 304 0 0, ?_, k9 hS, ?_, hT⟩
      · unfold fX8_use fX7_at fX7_slot
        rw [u_R0_2 hS, bs, u_kT146 hS, bs, w_0, w_3, w_23, w2 σ, b2s, if_neg (by decide), w4 σ, b2s, if_pos (by decide)]
        rfl
      · unfold fX9_use
        rw [u_pI304 hS, bs, w_4, w_24, w1, b2s, if_neg (by decide), w3, b2s, if_pos (by decide)]
        rfl
  · refine ⟨-1, σ, sI σ 304 0 0, ?_, k9 hS, ?_, hT⟩
    · unfold fX8_use fX7_at fX7_slot
      rw [u_R0_2 hS, bs, u_kT146 hS, bs, w_0, w_3, w_23, w2 σ, b2s, if_pos (by decide)]
      rfl
    · unfold fX9_use
      rw [u_pI304 hS, bs, w_4, w_24, w1, b2s, if_pos (by decide)]
      rfl
