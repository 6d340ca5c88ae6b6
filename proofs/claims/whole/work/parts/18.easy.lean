/-! writes that do not touch the plans -/
def inBk (c : Nat) : Prop := (4 ≤ c ∧ c < 146) ∨ (162 ≤ c ∧ c < 304) ∨ (306 ≤ c ∧ c ≤ 316)
theorem R_part_fr {σ τ : Mem} (hI : ∀ c, inBk c → gI τ c = gI σ c) {q k : Nat} (h1 : inBk q) (h2 : inBk (q + 1)) (h3 : inBk (q + 2)) (h : R_part σ q k) : R_part τ q k := by
  unfold R_part at h ⊢
  rw [hI q h1, hI (q + 1) h2, hI (q + 2) h3, hI 312 (Or.inr (Or.inr (by decide))), hI 313 (Or.inr (Or.inr (by decide))), hI 314 (Or.inr (Or.inr (by decide))), hI 315 (Or.inr (Or.inr (by decide))), hI 316 (Or.inr (Or.inr (by decide)))]
  exact h
theorem inB1 {b p : Nat} (hb : b = 4 ∨ b = 162) (hp : p < 10) {j : Nat} (hj : j < 14) : inBk (b + 2 + 14 * p + j) := by
  rcases hb with rfl | rfl
  · exact Or.inl (by omega)
  · exact Or.inr (Or.inl (by omega))
theorem R_plan_fr {σ τ : Mem} (hI : ∀ c, inBk c → gI τ c = gI σ c) (hJ : ∀ c, inBk c → gJ τ c = gJ σ c) {b p r : Nat} (hb : b = 4 ∨ b = 162) (hp : p < 10) (h : R_plan σ (b + 2 + 14 * p) r) : R_plan τ (b + 2 + 14 * p) r := by
  have k0 : inBk (b + 2 + 14 * p) := inB1 hb hp (j := 0) (by decide)
  unfold R_plan at h ⊢
  rw [hI _ k0, hJ _ k0, hI 307 (Or.inr (Or.inr (by decide))), hI 308 (Or.inr (Or.inr (by decide))), hI 309 (Or.inr (Or.inr (by decide))), hI 310 (Or.inr (Or.inr (by decide))), hI 311 (Or.inr (Or.inr (by decide))), hJ 306 (Or.inr (Or.inr (by decide)))]
  obtain ⟨a1, a2, a3, a4, a5, a6, a7, a8, sv, s1, s2, s3⟩ := h
  refine ⟨a1, a2, a3, a4, a5, a6, a7, a8, sv, s1, s2, fun i hi => ⟨(s3 i hi).1, fun ht => ?_⟩⟩
  have q0 := inB1 hb hp (j := 2 + 3 * i) (by omega)
  have q1 := inB1 hb hp (j := 3 + 3 * i) (by omega)
  have q2 := inB1 hb hp (j := 4 + 3 * i) (by omega)
  refine R_part_fr hI ?_ ?_ ?_ ((s3 i hi).2 ht)
  · exact (show b + 2 + 14 * p + 2 + 3 * i = b + 2 + 14 * p + (2 + 3 * i) by omega) ▸ q0
  · exact (show b + 2 + 14 * p + 2 + 3 * i + 1 = b + 2 + 14 * p + (3 + 3 * i) by omega) ▸ q1
  · exact (show b + 2 + 14 * p + 2 + 3 * i + 2 = b + 2 + 14 * p + (4 + 3 * i) by omega) ▸ q2
theorem R_book_fr {σ τ : Mem} (hI : ∀ c, inBk c → gI τ c = gI σ c) (hJ : ∀ c, inBk c → gJ τ c = gJ σ c) (hn : gI τ 304 22 = gI σ 304 22) (hR : gR τ 0 8 = gR σ 0 8) (hR3 : gR τ 3 1 = gR σ 3 1) (h : R_book σ) : R_book τ := by
  obtain ⟨b, b', hb, h1, h2, P, hP, h3, h4, h5⟩ := h
  have hbb : b = 4 ∨ b = 162 := by rcases hb with ⟨h, -⟩ | ⟨h, -⟩ <;> simp [h]
  have kb : inBk b := by rcases hbb with rfl | rfl <;> simp [inBk]
  refine ⟨b, b', hb, by rw [hR]; exact h1, by rw [hR3]; exact h2, P, hP, by rw [hI b kb]; exact h3, by rw [hn]; exact h4, fun p hp => R_plan_fr hI hJ hbb (by omega) (h5 p hp)⟩
theorem nBk {c a : Nat} (h : inBk c) (ha : ¬ inBk a) : c ≠ a := fun e => ha (e ▸ h)
theorem R_book_sI {σ : Mem} {a k : Nat} {v : Int32} (ha : ¬ inBk a) (hk : ¬ (a = 304 ∧ k = 22)) (h : R_book σ) : R_book (sI σ a k v) :=
  R_book_fr (fun c hc => gI_sI_n (nBk hc ha)) (fun c _ => gJ_sI) (by
    by_cases e : a = 304
    · subst e
      rw [gI_sI_s]
      exact if_neg (fun q => hk ⟨rfl, q.symm⟩)
    · rw [gI_sI_n (fun q => e q.symm)]) rfl rfl h
theorem R_book_sJ {σ : Mem} {a k : Nat} {v : Int64} (ha : ¬ inBk a) (h : R_book σ) : R_book (sJ σ a k v) :=
  R_book_fr (fun c _ => gI_sJ) (fun c hc => gJ_sJ_n (nBk hc ha)) rfl rfl rfl h
theorem Rel_th {σ : Mem} (h : Rel σ) (v : Int32) : Rel (sI σ 304 0 v) := by
  obtain ⟨h0, h1, h2, h3, h4, h5, h6, h7, h8, h9⟩ := h
  refine ⟨h0, ?_, ?_, ?_, ?_, ?_, ?_, ?_, ?_, R_book_sI (by unfold inBk; omega) (by omega) h9⟩
  · simpa [gI_sI_n, gI_sI_s, upd] using h1
  · simpa [gI_sI_n, gI_sI_s, upd] using h2
  · simpa [gI_sI_n, gI_sI_s, upd] using h3
  · simpa [gI_sI_n, gI_sI_s, upd] using h4
  · simpa [gI_sI_n, gI_sI_s, upd] using h5
  · simpa [gI_sI_n, gI_sI_s, upd] using h6
  · simpa [gI_sI_n, gI_sI_s, upd] using h7
  · simpa [gI_sI_n, gI_sI_s, upd, gJ_sI] using h8
theorem op_fault : OpI Rel (fX8_fault 0) (fX9_fault 304) := by
  intro σ h
  have hS := h.1
  refine ⟨gI σ 3 4, σ, sI σ 304 0 0, ?_, q_k hS (by decide) rfl, ?_, Rel_th h 0⟩
  · unfold fX8_fault
    rw [q_fR hS (by decide) rfl (by decide) rfl, bs, q_fI hS (by decide) rfl, bs]
  · unfold fX9_fault
    rw [q_pI hS (by decide) rfl, bs, q_fI (q_sI hS _ _ _) (by decide) rfl, bs, gI_sI_s, h.2.2.1]
    rfl
theorem op_change (a : Int32) : OpI Rel (fX8_change 0 a) (fX9_change 304 a) := by
  intro σ h
  have hS := h.1
  have hT := Rel_th h 0
  unfold fX8_change fX9_change
  rw [q_pI hS (by decide) rfl, bs]
  by_cases c1 : a < 0
  · rw [if_pos c1, if_pos c1]
    exact ⟨0, σ, _, rfl, q_k hS (by decide) rfl, rfl, hT⟩
  · rw [if_neg c1]
    by_cases c2 : a ≤ 100000
    · rw [if_pos c2, q_pI hS (by decide) rfl]
      obtain ⟨t, ht, hta⟩ := nI_of2 (M := 100000) (n := 100000) rfl c1 c2
      refine ⟨1, sI σ 0 9 a, sI (sI (sI σ 0 9 a) 304 0 0) 304 28 a, rfl, q_k hS (by decide) rfl, ?_, ?_⟩
      · rw [q_pI (q_sI hS 0 9 a) (by decide) rfl, bs, if_neg c1, if_pos c2, q_pI (q_sI (q_sI hS 0 9 a) 304 0 0) (by decide) rfl]
        rfl
      · obtain ⟨h0, h1, h2, h3, h4, h5, h6, h7, h8, h9⟩ := h
        refine ⟨h0, ?_, ?_, ?_, ?_, ?_, ?_, ?_, ?_, R_book_sI (by unfold inBk; omega) (by omega) (R_book_sI (by unfold inBk; omega) (by omega) (R_book_sI (by unfold inBk; omega) (by omega) h9))⟩
        · simpa [gI_sI_n, gI_sI_s, upd] using h1
        · simpa [gI_sI_n, gI_sI_s, upd] using h2
        · simpa [gI_sI_n, gI_sI_s, upd] using h3
        · simp [gI_sI_n, gI_sI_s, upd]
          exact ⟨rfl, t, ht, hta⟩
        · simpa [gI_sI_n, gI_sI_s, upd] using h5
        · simpa [gI_sI_n, gI_sI_s, upd] using h6
        · simpa [gI_sI_n, gI_sI_s, upd] using h7
        · simpa [gI_sI_n, gI_sI_s, upd, gJ_sI] using h8
    · rw [if_neg c2]
      refine ⟨0, σ, _, rfl, q_k hS (by decide) rfl, ?_, hT⟩
      rw [q_pI hS (by decide) rfl, bs, if_neg c1, if_neg c2]
      rfl
