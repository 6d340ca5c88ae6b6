/-! the reference's reader: tokens at hand -/
def AT (τ : Mem) (T : Nat → Nat) (L pos : Nat) : Prop := ST τ ∧ tq τ T ∧ gI τ 304 3 = nI L ∧ GK τ (tok T L pos) ∧ pos ≤ L ∧ L ≤ 840
def gz (c k : Nat) : Prop := c = 304 ∧ ((4 ≤ k ∧ k ≤ 7) ∨ k = 10 ∨ k = 23)
def fr9 (c k : Nat) : Prop := (c = 304 ∧ ((4 ≤ k ∧ k ≤ 10) ∨ k = 23 ∨ k = 24)) ∨ (306 ≤ c ∧ c ≤ 310 ∧ 10 ≤ k) ∨ ((c = 311 ∨ c = 312 ∨ c = 313 ∨ c = 316) ∧ 40 ≤ k) ∨ ((c = 314 ∨ c = 315) ∧ 120 ≤ k)
theorem gq_z {c k : Nat} (h : gq c k) : gz c k := by unfold gq at h; unfold gz; omega
theorem gz_9 {c k : Nat} (h : gz c k) : fr9 c k := by unfold gz at h; unfold fr9; omega
theorem gq_9 {c k : Nat} (h : gq c k) : fr9 c k := gz_9 (gq_z h)
/-- a memory that differs only where plans are kept has the same token -/
theorem AT_fr {p : Nat → Nat → Prop} {τ υ : Mem} {T : Nat → Nat} {L pos : Nat} (F : Fr p τ υ) (hp : ∀ c k, p c k → 306 ≤ c ∧ c ≤ 316) (h : AT τ T L pos) : AT υ T L pos := by
  obtain ⟨h1, h2, h3, ⟨g1, g2, g3, g4, g5⟩, h5, h6⟩ := h
  have e (k : Nat) : gI υ 304 k = gI τ 304 k ∧ gJ υ 304 k = gJ τ 304 k := by
    have := F.2 304 k (fun q => by have := hp _ _ q; omega)
    exact ⟨this.1, this.2.1⟩
  exact ⟨F.1, tq_fr F (fun k q => by have := hp _ _ q; omega) h2, (e 3).1.trans h3, ⟨(e 5).1.trans g1, (e 6).1.trans g2, fun q => (e 4).1.trans (g3 q), fun q => (e 10).2.trans (g4 q), fun q => (e 7).1.trans (g5 q)⟩, h5, h6⟩
theorem AT_go {τ : Mem} {T : Nat → Nat} {L pos : Nat} (h : AT τ T L pos) (ha : ((tok T L pos).1 ≠ 12 ∧ (tok T L pos).1 ≠ 11) ∨ (tok T L pos).2.1 ≠ 0) : ∃ υ, fX9_go 304 τ = some υ ∧ Fr gq τ υ ∧ AT υ T L (tok T L pos).2.2.2.1 := by
  obtain ⟨h1, h2, h3, ⟨g1, g2, g3, g4, g5⟩, h5, h6⟩ := h
  obtain ⟨-, -, tf⟩ := tok_f (T := T) h6 h5
  obtain ⟨-, -, -, t4⟩ := tf ha
  obtain ⟨υ, u1, u2, u3⟩ := gog h1 h6 h2 t4 h3 (g3 ha)
  exact ⟨υ, u1, u2, u2.1, tq_fr u2 (by unfold gq; omega) h2, (u2.2 304 3 (by unfold gq; omega)).1.trans h3, u3, t4, h6⟩
theorem kn_1 {T : Nat → Nat} {L pos : Nat} : kn (tok T L pos) < 5 := by
  unfold kn
  repeat' split
  all_goals decide
theorem isK {τ : Mem} {T : Nat → Nat} {L pos : Nat} (h : AT τ T L pos) (i : Nat) (hi : i < 10) (c : Int64) (hc : c = lN (enc 27 96 (wds.getD i []) 0)) (hN : isN (wds.getD i [])) : fX9_isKey 304 c τ = some (bI (decide ((tok T L pos).1 = i)), τ) := by
  obtain ⟨h1, h2, h3, ⟨g1, g2, g3, g4, g5⟩, h5, h6⟩ := h
  unfold fX9_isKey
  rw [u_fI304 h1, bs, g2]
  have no (hk : ¬ (tok T L pos).2.1 = 1) : (if nI (kn (tok T L pos)) = 2 then (fJ τ 9 10 (some 304)).bind fun t3 => if t3 = c then fX9_isKey_b22 1 τ else fX9_isKey_b21 τ else fX9_isKey_b21 τ) = some (bI (decide ((tok T L pos).1 = i)), τ) := by
    have h2 : kn (tok T L pos) ≠ 2 := by
      unfold kn
      rw [if_neg hk]
      repeat' split
      all_goals decide
    have h3 : (tok T L pos).1 ≠ i := fun z => hk (tok_w (by omega))
    rw [if_neg (by rw [w_2, nI_eq (by have := kn_1 (T := T) (L := L) (pos := pos); omega) (by decide)]; exact h2), decide_eq_false h3]
    rfl
  by_cases hk : (tok T L pos).2.1 = 1
  · have k2 : kn (tok T L pos) = 2 := by unfold kn; rw [if_pos hk]
    rcases tok_k T L pos with ⟨-, kl, kw, -⟩ | ⟨q, -⟩ | ⟨q, -⟩
    · rw [if_pos (by rw [k2]; rfl), u_fJ304 h1, bs, g4 hk, hc, kw]
      by_cases c : (tok T L pos).2.2.2.2.2 = wds.getD i []
      · rw [if_pos (by rw [c]), decide_eq_true ((wd_k i hi).mpr c)]
        rfl
      · rw [if_neg (fun z => c ((e27_i kl hN).mp z)), decide_eq_false (fun z => c ((wd_k i hi).mp z))]
        rfl
    · omega
    · omega
  · exact no hk
theorem isF {τ : Mem} {T : Nat → Nat} {L pos : Nat} (h : AT τ T L pos) : fX9_isFree 304 τ = some (bI (decide ((tok T L pos).2.1 = 1 ∧ (tok T L pos).1 = 12)), τ) := by
  obtain ⟨h1, h2, h3, ⟨g1, g2, g3, g4, g5⟩, h5, h6⟩ := h
  unfold fX9_isFree
  rw [u_fI304 h1, bs, g2]
  by_cases hk : (tok T L pos).2.1 = 1
  · have k2 : kn (tok T L pos) = 2 := by unfold kn; rw [if_pos hk]
    rcases tok_k T L pos with ⟨-, kl, kw, -⟩ | ⟨q, -⟩ | ⟨q, -⟩
    · have iN : ∀ l : List Nat, isNb l = true → isN l := fun l h => isNb_N h
      have nk (i : Nat) (hi : i < 10) (c : Int64) (hc : c = lN (enc 27 96 (wds.getD i []) 0)) (hN : isNb (wds.getD i []) = true) : (lN (enc 27 96 (tok T L pos).2.2.2.2.2 0) = c) ↔ (tok T L pos).1 = i := by
        rw [hc, e27_i kl (iN _ hN), kw, wd_k i hi]
      rw [if_pos (by rw [k2]; rfl)]
      simp only [u_fJ304 h1, bs, g4 hk]
      simp only [nk 0 (by decide) 323717 (by decide) (by decide), nk 1 (by decide) 4514 (by decide) (by decide), nk 2 (by decide) 397804 (by decide) (by decide), nk 3 (by decide) 131638 (by decide) (by decide), nk 4 (by decide) 11450658 (by decide) (by decide), nk 5 (by decide) 4797 (by decide) (by decide), nk 6 (by decide) 131360 (by decide) (by decide), nk 7 (by decide) 555 (by decide) (by decide), nk 8 (by decide) 47 (by decide) (by decide), nk 9 (by decide) 358472 (by decide) (by decide)]
      rcases wd_12 (tok T L pos).2.2.2.2.2 with z | z
      · rw [← kw] at z
        rw [decide_eq_true ⟨hk, z⟩, z]
        rfl
      · rw [← kw] at z
        rw [decide_eq_false (fun q => by omega)]
        generalize (tok T L pos).1 = w at z
        have c10 : w = 0 ∨ w = 1 ∨ w = 2 ∨ w = 3 ∨ w = 4 ∨ w = 5 ∨ w = 6 ∨ w = 7 ∨ w = 8 ∨ w = 9 := by omega
        rcases c10 with rfl | rfl | rfl | rfl | rfl | rfl | rfl | rfl | rfl | rfl <;> rfl
    · omega
    · omega
  · have h2 : kn (tok T L pos) ≠ 2 := by
      unfold kn
      rw [if_neg hk]
      repeat' split
      all_goals decide
    rw [if_neg (by rw [w_2, nI_eq (by have := kn_1 (T := T) (L := L) (pos := pos); omega) (by decide)]; exact h2), decide_eq_false (fun z => hk z.1)]
    rfl
/-- a fault -/
theorem badK {τ : Mem} {T : Nat → Nat} {L pos k : Nat} (h : AT τ T L pos) (hk : k = 1 ∨ kn (tok T L pos) ≠ 1) : ∃ υ, (b2 (fX9_bad 304 (nI k) τ) fun t m => if t = 0 ∨ t = 1 then some (t, m) else none) = some ((0 : Int32), υ) ∧ Fr fr9 τ υ ∧ gI υ 304 8 = nI k ∧ gI υ 304 9 = nI (tok T L pos).2.2.1 := by
  obtain ⟨h1, h2, h3, ⟨g1, g2, g3, g4, g5⟩, h5, h6⟩ := h
  have b14 : fX9_bad_b14 304 (nI k) (some 304) τ = some (0, sI (sI τ 304 8 (nI k)) 304 9 (gI τ 304 5)) := by
    unfold fX9_bad_b14
    rw [u_pI304 h1, bs, u_fI304 (q_sI h1 _ _ _), bs, gI_sI2 (by decide), u_pI304 (q_sI h1 _ _ _), bs]
  have e : fX9_bad 304 (nI k) τ = some (0, sI (sI τ 304 8 (nI k)) 304 9 (gI τ 304 5)) := by
    unfold fX9_bad
    rw [u_fI304 h1, bs, g2]
    by_cases c : kn (tok T L pos) = 1
    · have hk1 : k = 1 := hk.resolve_right (fun z => z c)
      subst hk1
      rw [if_pos (by rw [c]; rfl)]
      exact b14
    · rw [if_neg (by rw [w_1, nI_eq (by have := kn_1 (T := T) (L := L) (pos := pos); omega) (by decide)]; exact c), b14]
  exact ⟨_, by rw [e, b2s, if_pos (by decide)], Fr.cI (Fr.cI (Fr.refl h1) (by unfold fr9; omega)) (by unfold fr9; omega), by rw [gI_sI2 (by omega), gI_sI1], by rw [gI_sI1]; exact g1⟩
/-- a number at hand -/
theorem rdN {τ : Mem} {T : Nat → Nat} {L q lo hi : Nat} (h : AT τ T L q) (hlo : lo < 2 ^ 31) (hhi : hi < 2 ^ 31) : ∃ f υ, fX9_readNumber 304 (nI lo) (nI hi) τ = some (f, υ) ∧ ((f = 1 ∧ Fr gz τ υ ∧ (tok T L q).2.1 = 2 ∧ lo ≤ (tok T L q).2.2.2.2.1 ∧ (tok T L q).2.2.2.2.1 ≤ hi ∧ AT υ T L (tok T L q).2.2.2.1 ∧ gI υ 304 23 = nI (tok T L q).2.2.2.2.1) ∨ (f = 0 ∧ Fr fr9 τ υ ∧ gI υ 304 9 = nI (tok T L q).2.2.1 ∧ (((tok T L q).2.1 = 2 ∧ ¬ (lo ≤ (tok T L q).2.2.2.2.1 ∧ (tok T L q).2.2.2.2.1 ≤ hi) ∧ gI υ 304 8 = nI 2) ∨ ((tok T L q).2.1 ≠ 2 ∧ gI υ 304 8 = nI 1)))) := by
  have h' := h
  obtain ⟨h1, h2, h3, ⟨g1, g2, g3, g4, g5⟩, h5, h6⟩ := h'
  unfold fX9_readNumber
  rw [u_fI304 h1, bs, g2]
  by_cases hk : (tok T L q).2.1 = 2
  · have kv : (tok T L q).2.2.2.2.1 ≤ 999999 := by
      rcases tok_k T L q with ⟨z, -⟩ | ⟨-, -, z⟩ | ⟨z, -⟩
      · omega
      · exact z
      · omega
    have k3 : kn (tok T L q) = 3 := by unfold kn; rw [if_neg (by omega), if_pos hk]
    have bad2 (hno : ¬ (lo ≤ (tok T L q).2.2.2.2.1 ∧ (tok T L q).2.2.2.2.1 ≤ hi)) : ∃ f υ, fX9_readNumber_b30 304 τ = some (f, υ) ∧ ((f = 1 ∧ Fr gz τ υ ∧ (tok T L q).2.1 = 2 ∧ lo ≤ (tok T L q).2.2.2.2.1 ∧ (tok T L q).2.2.2.2.1 ≤ hi ∧ AT υ T L (tok T L q).2.2.2.1 ∧ gI υ 304 23 = nI (tok T L q).2.2.2.2.1) ∨ (f = 0 ∧ Fr fr9 τ υ ∧ gI υ 304 9 = nI (tok T L q).2.2.1 ∧ (((tok T L q).2.1 = 2 ∧ ¬ (lo ≤ (tok T L q).2.2.2.2.1 ∧ (tok T L q).2.2.2.2.1 ≤ hi) ∧ gI υ 304 8 = nI 2) ∨ ((tok T L q).2.1 ≠ 2 ∧ gI υ 304 8 = nI 1)))) := by
      obtain ⟨υ, u1, u2, u3, u4⟩ := badK (k := 2) h (Or.inr (by rw [k3]; decide))
      unfold fX9_readNumber_b30
      rw [u_kT304 h1, bs]
      exact ⟨0, υ, u1, Or.inr ⟨rfl, u2, u4, Or.inl ⟨hk, hno, u3⟩⟩⟩
    rw [if_pos (by rw [k3]; rfl), u_fI304 h1, bs, g5 hk]
    by_cases c1 : (tok T L q).2.2.2.2.1 < lo
    · rw [if_pos (nI_lt c1 hlo)]
      exact bad2 (by omega)
    · rw [if_neg (nI_nlt (by omega) (by omega)), bs]
      by_cases c2 : (tok T L q).2.2.2.2.1 ≤ hi
      · have F1 : Fr gz τ (sI τ 304 23 (nI (tok T L q).2.2.2.2.1)) := Fr.cI (Fr.refl h1) (by unfold gz; omega)
        have hA : AT (sI τ 304 23 (nI (tok T L q).2.2.2.2.1)) T L q := ⟨F1.1, tq_fr F1 (by unfold gz; omega) h2, by rw [gI_sI2 (by omega)]; exact h3, ⟨by rw [gI_sI2 (by omega)]; exact g1, by rw [gI_sI2 (by omega)]; exact g2, fun z => by rw [gI_sI2 (by omega)]; exact g3 z, g4, fun z => by rw [gI_sI2 (by omega)]; exact g5 z⟩, h5, h6⟩
        obtain ⟨υ, u1, u2, u3⟩ := AT_go hA (Or.inr (by omega))
        rw [if_pos (nI_le c2 hhi), bs, u_pI304 h1, bs, u_kT304 F1.1, bs, u1, bs]
        exact ⟨1, υ, rfl, Or.inl ⟨rfl, Fr.tr F1 (Fr.mono u2 (by intro c k h; exact gq_z h)), hk, by omega, c2, u3, by rw [(u2.2 304 23 (by unfold gq; omega)).1, gI_sI1]⟩⟩
      · rw [if_neg (nI_ge (by omega) (by omega))]
        exact bad2 (by omega)
  · have k3 : kn (tok T L q) ≠ 3 := by
      unfold kn
      by_cases z : (tok T L q).2.1 = 1
      · rw [if_pos z]; decide
      · rw [if_neg z, if_neg hk]
        repeat' split
        all_goals decide
    obtain ⟨υ, u1, u2, u3, u4⟩ := badK (k := 1) h (Or.inl rfl)
    have u1 : (b2 (fX9_bad 304 1 τ) fun t m => if t = 0 ∨ t = 1 then some (t, m) else none) = some ((0 : Int32), υ) := u1
    rw [if_neg (by rw [w_3, nI_eq (by have := kn_1 (T := T) (L := L) (pos := q); omega) (by decide)]; exact k3), u_kT304 h1, bs, u1]
    exact ⟨0, υ, rfl, Or.inr ⟨rfl, u2, u4, Or.inr ⟨hk, u3⟩⟩⟩
theorem rdK {τ : Mem} {T : Nat → Nat} {L pos : Nat} (h : AT τ T L pos) (i : Nat) (hi : i < 10) (c : Int64) (hc : c = lN (enc 27 96 (wds.getD i []) 0)) (hN : isN (wds.getD i [])) : ∃ f υ, fX9_readKey 304 c τ = some (f, υ) ∧ ((f = 1 ∧ Fr gq τ υ ∧ (tok T L pos).1 = i ∧ AT υ T L (tok T L pos).2.2.2.1) ∨ (f = 0 ∧ Fr fr9 τ υ ∧ (tok T L pos).1 ≠ i ∧ gI υ 304 8 = nI 1 ∧ gI υ 304 9 = nI (tok T L pos).2.2.1)) := by
  have h1 := h.1
  unfold fX9_readKey
  rw [u_kT304 h1, bs, isK h i hi c hc hN, b2s]
  by_cases w : (tok T L pos).1 = i
  · obtain ⟨υ, u1, u2, u3⟩ := AT_go h (Or.inl ⟨by omega, by omega⟩)
    rw [decide_eq_true w, if_neg (show ¬ bI true = 0 by decide), u_kT304 h1, bs, u1, bs]
    exact ⟨1, υ, rfl, Or.inl ⟨rfl, u2, w, u3⟩⟩
  · obtain ⟨υ, u1, u2, u3, u4⟩ := badK (k := 1) h (Or.inl rfl)
    have u1 : (b2 (fX9_bad 304 1 τ) fun t m => if t = 0 ∨ t = 1 then some (t, m) else none) = some ((0 : Int32), υ) := u1
    rw [decide_eq_false w, if_pos (show bI false = 0 from rfl), u_kT304 h1, bs, u1]
    exact ⟨0, υ, rfl, Or.inr ⟨rfl, u2, w, u3, u4⟩⟩
/-! the reader's memory -/
def HN9 (τ : Mem) (r : Nat) (d : NL) : Prop := gJ τ 306 r = lN (enc 27 96 d.1 0) ∧ HL9 τ r d.2
def HMx (σ : Mem) (k : Nat) (d : PD) : Prop := gI σ 312 k = nI d.1 ∧ gI σ 313 k = nI d.2.1 ∧ ∀ i, i < d.2.1 → gI σ 314 (3 * k + i) = nI (d.2.2.1 i) ∧ gI σ 315 (3 * k + i) = nI (d.2.2.2.1 i)
/-- the plans read, and the one at hand; where a part is at hand its rest is open -/
def M9 (τ : Mem) (st : PS) (m : Bool) : Prop := gI τ 304 24 = nI st.1 ∧ (∀ p, p < st.1 → HN9 τ (10 + p) (st.2.1 p)) ∧ gJ τ 306 (10 + st.1) = lN (enc 27 96 (st.2.1 st.1).1 0) ∧ gI τ 307 (10 + st.1) = nI (cP st).1 ∧ gI τ 308 (10 + st.1) = nI (cP st).2.1 ∧ gI τ 309 (10 + st.1) = nI (cP st).2.2.1 ∧ gI τ 310 (10 + st.1) = nI (cP st).2.2.2.1 ∧ ∀ s, s < 4 → gI τ 311 (4 * (10 + st.1) + s) = (if (cP st).2.2.2.2.1.testBit s then 1 else 0) ∧ ((cP st).2.2.2.2.1.testBit s = true → HMx τ (4 * (10 + st.1) + s) ((cP st).2.2.2.2.2 s) ∧ (¬ (m = true ∧ s = st.2.2) → gI τ 316 (4 * (10 + st.1) + s) = nI ((cP st).2.2.2.2.2 s).2.2.2.2))
theorem HN9_fr {p : Nat → Nat → Prop} {τ υ : Mem} {r : Nat} {d : NL} (F : Fr p τ υ) (h6 : ∀ c k, 306 ≤ c → c ≤ 310 → p c k → k ≠ r) (h7 : ∀ c k, c = 311 ∨ c = 312 ∨ c = 313 ∨ c = 316 → p c k → k < 4 * r ∨ 4 * r + 4 ≤ k) (h8 : ∀ c k, c = 314 ∨ c = 315 → p c k → k < 12 * r ∨ 12 * r + 12 ≤ k) (hd : ∀ s, s < 4 → d.2.2.2.2.2.1.testBit s = true → (d.2.2.2.2.2.2 s).2.1 ≤ 3) (h : HN9 τ r d) : HN9 υ r d := by
  have a (c : Nat) (h1 : 306 ≤ c) (h2 : c ≤ 310) : ¬ p c r := fun q => h6 c r h1 h2 q rfl
  have b (c s : Nat) (hc : c = 311 ∨ c = 312 ∨ c = 313 ∨ c = 316) (hs : s < 4) : ¬ p c (4 * r + s) := fun q => by have := h7 c _ hc q; omega
  have e (c s i : Nat) (hc : c = 314 ∨ c = 315) (hs : s < 4) (hi : i < 3) : ¬ p c (3 * (4 * r + s) + i) := fun q => by have := h8 c _ hc q; omega
  obtain ⟨g0, g1, g2, g3, g4, g5⟩ := h
  refine ⟨(F.2 _ _ (a 306 (by decide) (by decide))).2.1.trans g0, (F.2 _ _ (a 307 (by decide) (by decide))).1.trans g1, (F.2 _ _ (a 308 (by decide) (by decide))).1.trans g2, (F.2 _ _ (a 309 (by decide) (by decide))).1.trans g3, (F.2 _ _ (a 310 (by decide) (by decide))).1.trans g4, fun s hs => ⟨(F.2 _ _ (b 311 s (by omega) hs)).1.trans (g5 s hs).1, fun ht => ?_⟩⟩
  obtain ⟨k1, k2, k3, k4⟩ := (g5 s hs).2 ht
  have h3 := hd s hs ht
  exact ⟨(F.2 _ _ (b 312 s (by omega) hs)).1.trans k1, (F.2 _ _ (b 313 s (by omega) hs)).1.trans k2, (F.2 _ _ (b 316 s (by omega) hs)).1.trans k3, fun i hi => ⟨(F.2 _ _ (e 314 s i (by omega) hs (by omega))).1.trans (k4 i hi).1, (F.2 _ _ (e 315 s i (by omega) hs (by omega))).1.trans (k4 i hi).2⟩⟩
theorem M9_z {τ υ : Mem} {st : PS} {m : Bool} (F : Fr gz τ υ) (h : M9 τ st m) : M9 υ st m := by
  have e (c : Nat) (hc : c ≠ 304) : gI υ c = gI τ c ∧ gJ υ c = gJ τ c := ⟨F.eI (fun k => by unfold gz; omega), F.eJ (fun k => by unfold gz; omega)⟩
  unfold M9 HN9 HL9 HM HMx at h ⊢
  rw [(F.2 304 24 (by unfold gz; omega)).1, (e 306 (by decide)).2, (e 307 (by decide)).1, (e 308 (by decide)).1, (e 309 (by decide)).1, (e 310 (by decide)).1, (e 311 (by decide)).1, (e 312 (by decide)).1, (e 313 (by decide)).1, (e 314 (by decide)).1, (e 315 (by decide)).1, (e 316 (by decide)).1]
  exact h
