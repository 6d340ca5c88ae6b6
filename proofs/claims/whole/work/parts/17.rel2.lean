/-! writes that do not touch the plans -/
def inBk (c : Nat) : Prop := (4 ≤ c ∧ c < 146) ∨ (162 ≤ c ∧ c < 304) ∨ (306 ≤ c ∧ c ≤ 316)
theorem R_part_fr {σ τ : Mem} (hI : ∀ c, inBk c → gI τ c = gI σ c) {q k : Nat} (h1 : inBk q) (h2 : inBk (q + 1)) (h3 : inBk (q + 2)) (h : R_part σ q k) : R_part τ q k := by
  unfold R_part at h ⊢
  rw [hI q h1, hI (q + 1) h2, hI (q + 2) h3, hI 312 (Or.inr (Or.inr (by decide))), hI 313 (Or.inr (Or.inr (by decide))), hI 314 (Or.inr (Or.inr (by decide))), hI 315 (Or.inr (Or.inr (by decide))), hI 316 (Or.inr (Or.inr (by decide)))]
  exact h
theorem inB1 {b p : Nat} (hb : b = 4 ∨ b = 162) (hp : p < 10) {j : Nat} (hj : j < 14) : inBk (b + 2 + 14 * p + j) := by
  rcases hb with rfl | rfl
  · exact Or.inl (by omega)
  · exact Or.inr (Or.inl (by omega))
theorem R_plan_fr {σ τ : Mem} (hI : ∀ c, inBk c → gI τ c = gI σ c) (hJ : ∀ c, inBk c → gJ τ c = gJ σ c) {b p r : Nat} (hb : b = 4 ∨ b = 162) (hp : p < 10) (h : R_plan σ (b + 2 + 14 * p) r) : R_plan τ (b + 2 + 14 * p) r := by
  have k0 : inBk (b + 2 + 14 * p) := inB1 hb hp (j := 0) (by decide)
  unfold R_plan at h ⊢
  rw [hI _ k0, hJ _ k0, hI 307 (Or.inr (Or.inr (by decide))), hI 308 (Or.inr (Or.inr (by decide))), hI 309 (Or.inr (Or.inr (by decide))), hI 310 (Or.inr (Or.inr (by decide))), hI 311 (Or.inr (Or.inr (by decide))), hJ 306 (Or.inr (Or.inr (by decide)))]
  obtain ⟨a1, a2, a3, a4, a5, a6, a7, a8, sv, s1, s2, s3⟩ := h
  refine ⟨a1, a2, a3, a4, a5, a6, a7, a8, sv, s1, s2, fun i hi => ⟨(s3 i hi).1, fun ht => ?_⟩⟩
  have q0 := inB1 hb hp (j := 2 + 3 * i) (by omega)
  have q1 := inB1 hb hp (j := 3 + 3 * i) (by omega)
  have q2 := inB1 hb hp (j := 4 + 3 * i) (by omega)
  refine R_part_fr hI ?_ ?_ ?_ ((s3 i hi).2 ht)
  · exact (show b + 2 + 14 * p + 2 + 3 * i = b + 2 + 14 * p + (2 + 3 * i) by omega) ▸ q0
  · exact (show b + 2 + 14 * p + 2 + 3 * i + 1 = b + 2 + 14 * p + (3 + 3 * i) by omega) ▸ q1
  · exact (show b + 2 + 14 * p + 2 + 3 * i + 2 = b + 2 + 14 * p + (4 + 3 * i) by omega) ▸ q2
theorem R_book_fr {σ τ : Mem} (hI : ∀ c, inBk c → gI τ c = gI σ c) (hJ : ∀ c, inBk c → gJ τ c = gJ σ c) (hn : gI τ 304 22 = gI σ 304 22) (hR : gR τ 0 8 = gR σ 0 8) (hR3 : gR τ 3 1 = gR σ 3 1) (h : R_book σ) : R_book τ := by
  obtain ⟨b, b', hb, h1, h2, P, hP, h3, h4, h5⟩ := h
  have hbb : b = 4 ∨ b = 162 := by rcases hb with ⟨h, -⟩ | ⟨h, -⟩ <;> simp [h]
  have kb : inBk b := by rcases hbb with rfl | rfl <;> simp [inBk]
  refine ⟨b, b', hb, by rw [hR]; exact h1, by rw [hR3]; exact h2, P, hP, by rw [hI b kb]; exact h3, by rw [hn]; exact h4, fun p hp => R_plan_fr hI hJ hbb (by omega) (h5 p hp)⟩
theorem nBk {c a : Nat} (h : inBk c) (ha : ¬ inBk a) : c ≠ a := fun e => ha (e ▸ h)
theorem R_book_sI {σ : Mem} {a k : Nat} {v : Int32} (ha : ¬ inBk a) (hk : ¬ (a = 304 ∧ k = 22)) (h : R_book σ) : R_book (sI σ a k v) :=
  R_book_fr (fun c hc => gI_sI_n (nBk hc ha)) (fun c _ => gJ_sI) (by
    by_cases e : a = 304
    · subst e
      rw [gI_sI_s]
      exact if_neg (fun q => hk ⟨rfl, q.symm⟩)
    · rw [gI_sI_n (fun q => e q.symm)]) rfl rfl h
theorem R_book_sJ {σ : Mem} {a k : Nat} {v : Int64} (ha : ¬ inBk a) (h : R_book σ) : R_book (sJ σ a k v) :=
  R_book_fr (fun c _ => gI_sJ) (fun c hc => gJ_sJ_n (nBk hc ha)) rfl rfl rfl h
