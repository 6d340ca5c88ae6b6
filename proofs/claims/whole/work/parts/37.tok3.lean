/-! the reference's scanner -/
theorem isDg {c : Nat} (hc : c ≤ 255) (σ : Mem) : fX9_isDigit (nI c) σ = some (if isD c = true then 1 else 0, σ) := by
  unfold fX9_isDigit isD
  simp only [Bool.and_eq_true, decide_eq_true_eq]
  by_cases c1 : c < 48
  · rw [w_48, if_pos (nI_lt c1 (by decide)), if_neg (by omega)]; rfl
  · rw [w_48, if_neg (nI_nlt (by omega) (by omega))]
    by_cases c2 : 57 < c
    · rw [w_57, if_pos (nI_lt c2 (by omega)), if_neg (by omega)]; rfl
    · rw [w_57, if_neg (nI_nlt (by omega) (by omega)), if_pos (by omega)]; rfl
theorem isLt {c : Nat} (hc : c ≤ 255) (σ : Mem) : fX9_isLetter (nI c) σ = some (if isL c = true then 1 else 0, σ) := by
  unfold fX9_isLetter isL
  simp only [Bool.and_eq_true, decide_eq_true_eq]
  by_cases c1 : c < 97
  · rw [w_97, if_pos (nI_lt c1 (by decide)), if_neg (by omega)]; rfl
  · rw [w_97, if_neg (nI_nlt (by omega) (by omega))]
    by_cases c2 : 122 < c
    · rw [w_122, if_pos (nI_lt c2 (by omega)), if_neg (by omega)]; rfl
    · rw [w_122, if_neg (nI_nlt (by omega) (by omega)), if_pos (by omega)]; rfl
def gq (c k : Nat) : Prop := c = 304 ∧ ((4 ≤ k ∧ k ≤ 7) ∨ k = 10)
theorem tq_fr {p : Nat → Nat → Prop} {σ τ : Mem} {T : Nat → Nat} (F : Fr p σ τ) (h2 : ∀ k, ¬ p 305 k) (h : tq σ T) : tq τ T := by
  intro j hj
  rw [(F.2 305 j (h2 j)).1]
  exact h j hj
theorem go0 {L : Nat} {T : Nat → Nat} (hL : L ≤ 840) : ∀ k p N σ, ST σ → tq σ T → gI σ 304 3 = nI L → gI σ 304 4 = nI p → p ≤ L → L ≤ p + k → k < N → ∃ τ, fX9_go_b0 N 304 σ = fX9_go_b52 304 τ ∧ Fr (fun c k => c = 304 ∧ k = 4) σ τ ∧ gI τ 304 4 = nI (skb T L k p) := by
  intro k
  induction k with
  | zero =>
    intro p N σ hS ht e3 e4 h1 h2 h3
    obtain ⟨N, rfl⟩ : ∃ M, N = M + 1 := ⟨N - 1, by omega⟩
    rw [fX9_go_b0, u_fI304 hS, bs, u_fI304 hS, bs, e3, e4, if_pos (nI_le (by omega) (by omega))]
    exact ⟨σ, rfl, Fr.refl hS, e4⟩
  | succ k ih =>
    intro p N σ hS ht e3 e4 h1 h2 h3
    obtain ⟨N, rfl⟩ : ∃ M, N = M + 1 := ⟨N - 1, by omega⟩
    have e : skb T L (k + 1) p = if p < L ∧ isBl (T p) = true then skb T L k (p + 1) else p := rfl
    rw [fX9_go_b0, u_fI304 hS, bs, u_fI304 hS, bs, e3, e4, e]
    by_cases c : p < L
    · obtain ⟨hT, hT2⟩ := ht p (by omega)
      rw [if_neg (nI_ge c (by omega)), u_R304_1 hS, bs, bs, u_a305 hS (by omega), bs, hT2]
      have nx (c2 : isBl (T p) = true) : ∃ τ, fX9_go_b39 (fX9_go_b0 N) 304 σ = fX9_go_b52 304 τ ∧ Fr (fun c k => c = 304 ∧ k = 4) σ τ ∧ gI τ 304 4 = nI (if p < L ∧ isBl (T p) = true then skb T L k (p + 1) else p) := by
        have F : Fr (fun c k => c = 304 ∧ k = 4) σ (sI σ 304 4 (nI (p + 1))) := Fr.cI (Fr.refl hS) (by omega)
        obtain ⟨τ, t1, t2, t3⟩ := ih (p + 1) N _ F.1 (tq_fr F (by omega) ht) (by rw [gI_sI2 (by omega)]; exact e3) gI_sI1 (by omega) (by omega) (by omega)
        rw [if_pos ⟨c, c2⟩]
        refine ⟨τ, ?_, Fr.tr F t2, t3⟩
        unfold fX9_go_b39
        rw [u_fI304 hS, bs, e4, u_pI304 hS, bs, nI_1]
        exact t1
      by_cases c32 : T p = 32
      · rw [if_pos (by rw [c32]; rfl)]
        exact nx (by rw [c32]; decide)
      · rw [if_neg (by rw [w_32, nI_eq (by omega) (by decide)]; exact c32), bs, bs, u_a305 hS (by omega), bs, hT2]
        by_cases c10 : T p = 10
        · rw [if_pos (by rw [c10]; rfl)]
          exact nx (by rw [c10]; decide)
        · rw [if_neg (by rw [w_10, nI_eq (by omega) (by decide)]; exact c10), if_neg (fun z => by have := z.2; unfold isBl at this; simp [c32, c10] at this)]
          exact ⟨σ, rfl, Fr.refl hS, e4⟩
    · rw [if_pos (nI_le (by omega) (by omega)), if_neg (fun z => c z.1)]
      exact ⟨σ, rfl, Fr.refl hS, e4⟩
theorem byM {σ : Mem} {L p : Nat} {T : Nat → Nat} (hS : ST σ) (hL : L ≤ 840) (ht : tq σ T) (e3 : gI σ 304 3 = nI L) (hp : p ≤ 840) : fX9_byteAt 304 (nI p) σ = some (nI (if p < L then T p else 0), σ) := by
  unfold fX9_byteAt
  rw [u_fI304 hS, bs, e3]
  by_cases c : p < L
  · rw [if_neg (nI_ge c (by omega)), u_R304_1 hS, bs, u_a305 hS (by omega), bs, (ht p (by omega)).2, if_pos c]
    rfl
  · rw [if_pos (nI_le (by omega) (by omega)), if_neg c]
    rfl
def gd_ (T : Nat → Nat) (p : Nat) : Nat → Bool
  | 0 => true
  | i + 1 => gd_ T p i && decide (isL (T (p + i)) = isL (T p))
theorem gd_f {T : Nat → Nat} {p : Nat} : ∀ n, 1 ≤ n → (∀ i, i < n → (isL (T (p + i)) || isD (T (p + i))) = true) → ((seg T p n).all isL = true ↔ isL (T p) = true ∧ gd_ T p n = true) ∧ ((seg T p n).all isD = true ↔ isL (T p) = false ∧ gd_ T p n = true) := by
  have ex (c : Nat) (h : (isL c || isD c) = true) : isD c = !isL c := by
    unfold isL isD at *
    by_cases a : 97 ≤ c ∧ c ≤ 122
    · have : ¬ (48 ≤ c ∧ c ≤ 57) := by omega
      simp [a]
      omega
    · by_cases b : 48 ≤ c ∧ c ≤ 57
      · simp [b]
        omega
      · exfalso
        simp only [Bool.or_eq_true, Bool.and_eq_true, decide_eq_true_eq] at h
        omega
  intro n
  induction n with
  | zero => intro h; omega
  | succ n ih =>
    intro _ h
    have e2 : seg T p (n + 1) = seg T p n ++ [T (p + n)] := rfl
    have e3 : gd_ T p (n + 1) = (gd_ T p n && decide (isL (T (p + n)) = isL (T p))) := rfl
    have hn := ex _ (h n (by omega))
    rw [e2, List.all_append, List.all_append, e3]
    by_cases c : n = 0
    · subst c
      have e0 : seg T p 0 = [] := rfl
      have e1 : gd_ T p 0 = true := rfl
      rw [Nat.add_zero] at hn
      simp [e0, e1, hn]
    · obtain ⟨i1, i2⟩ := ih (by omega) (fun i hi => h i (by omega))
      constructor
      · rw [Bool.and_eq_true, Bool.and_eq_true, i1, decide_eq_true_eq]
        simp only [List.all_cons, List.all_nil, Bool.and_true]
        constructor
        · rintro ⟨⟨a1, a2⟩, a3⟩; exact ⟨a1, a2, by rw [a1, a3]⟩
        · rintro ⟨a1, a2, a3⟩; exact ⟨⟨a1, a2⟩, by rw [a3, a1]⟩
      · rw [Bool.and_eq_true, Bool.and_eq_true, i2, decide_eq_true_eq]
        simp only [List.all_cons, List.all_nil, Bool.and_true, hn]
        constructor
        · rintro ⟨⟨a1, a2⟩, a3⟩; exact ⟨a1, a2, by rw [a1]; simpa using a3⟩
        · rintro ⟨a1, a2, a3⟩; exact ⟨⟨a1, a2⟩, by rw [a3, a1]; rfl⟩
def bI (b : Bool) : Int32 := if b = true then 1 else 0
theorem go177 {L p : Nat} {T : Nat → Nat} (hL : L ≤ 840) (hp : p < L) : ∀ k i N σ, ST σ → tq σ T → gI σ 304 3 = nI L → gI σ 304 4 = nI (p + i) → gI σ 304 5 = nI p → p + i ≤ L → L ≤ p + i + k → k < N → ((seg T p i).all isD = true → i ≤ 6 → gI σ 304 7 = nI (enc 10 48 (seg T p i) 0)) → ((seg T p i).all isL = true → i ≤ 8 → gJ σ 304 10 = lN (enc 27 96 (seg T p i) 0)) → ∃ τ, fX9_go_b177 N 304 (bI (isL (T p))) (bI (gd_ T p i)) σ = fX9_go_b313 304 (bI (isL (T p))) (bI (gd_ T p (ren T L k (p + i) - p))) τ ∧ Fr gq σ τ ∧ gI τ 304 4 = nI (ren T L k (p + i)) ∧ gI τ 304 5 = nI p ∧ ((seg T p (ren T L k (p + i) - p)).all isD = true → ren T L k (p + i) - p ≤ 6 → gI τ 304 7 = nI (enc 10 48 (seg T p (ren T L k (p + i) - p)) 0)) ∧ ((seg T p (ren T L k (p + i) - p)).all isL = true → ren T L k (p + i) - p ≤ 8 → gJ τ 304 10 = lN (enc 27 96 (seg T p (ren T L k (p + i) - p)) 0)) := by
  intro k
  induction k with
  | zero =>
    intro i N σ hS ht e3 e4 e5 h1 h2 h3 hn hl
    obtain ⟨N, rfl⟩ : ∃ M, N = M + 1 := ⟨N - 1, by omega⟩
    have e : ren T L 0 (p + i) - p = i := by show p + i - p = i; omega
    have e' : ren T L 0 (p + i) = p + i := rfl
    rw [e, e']
    refine ⟨σ, ?_, Fr.refl hS, e4, e5, hn, hl⟩
    have eb := byM hS hL ht e3 (p := p + i) (by omega)
    rw [if_neg (by omega)] at eb
    rw [fX9_go_b177, u_fI304 hS, bs, e4, u_kT304 hS, bs, eb, b2s, isLt (by decide), b2s, if_pos (by decide), u_fI304 hS, bs, e4, u_kT304 hS, bs, eb, b2s, isDg (by decide), b2s, if_pos (by decide)]
  | succ k ih =>
    intro i N σ hS ht e3 e4 e5 h1 h2 h3 hn hl
    obtain ⟨N, rfl⟩ : ∃ M, N = M + 1 := ⟨N - 1, by omega⟩
    have e : ren T L (k + 1) (p + i) = if p + i < L ∧ (isL (T (p + i)) || isD (T (p + i))) = true then ren T L k (p + i + 1) else p + i := rfl
    have eb := byM hS hL ht e3 (p := p + i) (by omega)
    have stop (h : ren T L (k + 1) (p + i) = p + i) : ∃ τ, fX9_go_b313 304 (bI (isL (T p))) (bI (gd_ T p i)) σ = fX9_go_b313 304 (bI (isL (T p))) (bI (gd_ T p (ren T L (k + 1) (p + i) - p))) τ ∧ Fr gq σ τ ∧ gI τ 304 4 = nI (ren T L (k + 1) (p + i)) ∧ gI τ 304 5 = nI p ∧ ((seg T p (ren T L (k + 1) (p + i) - p)).all isD = true → ren T L (k + 1) (p + i) - p ≤ 6 → gI τ 304 7 = nI (enc 10 48 (seg T p (ren T L (k + 1) (p + i) - p)) 0)) ∧ ((seg T p (ren T L (k + 1) (p + i) - p)).all isL = true → ren T L (k + 1) (p + i) - p ≤ 8 → gJ τ 304 10 = lN (enc 27 96 (seg T p (ren T L (k + 1) (p + i) - p)) 0)) := by
      rw [h, Nat.add_sub_cancel_left]
      exact ⟨σ, rfl, Fr.refl hS, e4, e5, hn, hl⟩
    rw [fX9_go_b177, u_fI304 hS, bs, e4, u_kT304 hS, bs, eb, b2s]
    by_cases c : p + i < L
    · obtain ⟨hT, hT2⟩ := ht (p + i) (by omega)
      rw [if_pos c, isLt hT, b2s]
      have es : seg T p (i + 1) = seg T p i ++ [T (p + i)] := rfl
      have eg : gd_ T p (i + 1) = (gd_ T p i && decide (isL (T (p + i)) = isL (T p))) := rfl
      have step (ca : (isL (T (p + i)) || isD (T (p + i))) = true) : ∃ τ, fX9_go_b205 (fX9_go_b177 N) 304 (bI (isL (T p))) (bI (gd_ T p i)) σ = fX9_go_b313 304 (bI (isL (T p))) (bI (gd_ T p (ren T L (k + 1) (p + i) - p))) τ ∧ Fr gq σ τ ∧ gI τ 304 4 = nI (ren T L (k + 1) (p + i)) ∧ gI τ 304 5 = nI p ∧ ((seg T p (ren T L (k + 1) (p + i) - p)).all isD = true → ren T L (k + 1) (p + i) - p ≤ 6 → gI τ 304 7 = nI (enc 10 48 (seg T p (ren T L (k + 1) (p + i) - p)) 0)) ∧ ((seg T p (ren T L (k + 1) (p + i) - p)).all isL = true → ren T L (k + 1) (p + i) - p ≤ 8 → gJ τ 304 10 = lN (enc 27 96 (seg T p (ren T L (k + 1) (p + i) - p)) 0)) := by
        -- the flag
        have b234 : fX9_go_b205 (fX9_go_b177 N) 304 (bI (isL (T p))) (bI (gd_ T p i)) σ = fX9_go_b234 (fX9_go_b177 N) 304 (bI (isL (T p))) (nI (T (p + i))) (bI (gd_ T p (i + 1))) σ := by
          unfold fX9_go_b205
          rw [u_R304_1 hS, bs, u_fI304 hS, bs, e4, u_a305 hS (by omega), bs, hT2, eg]
          cases hg : gd_ T p i with
          | false => rw [if_pos (show bI false = 0 from rfl)]; rfl
          | true =>
            rw [if_neg (by decide), isLt hT, b2s]
            cases ha : isL (T (p + i)) <;> cases hb : isL (T p) <;> rfl
        rw [b234]
        unfold fX9_go_b234
        rw [u_fI304 hS, bs, u_fI304 hS, bs, e4, e5, pk_sub (by omega), Nat.add_sub_cancel_left]
        -- what comes behind the name
        have fin (σ1 : Mem) (F1 : Fr (fun c k => c = 304 ∧ k = 10) σ σ1) (hl1 : (seg T p (i + 1)).all isL = true → i + 1 ≤ 8 → gJ σ1 304 10 = lN (enc 27 96 (seg T p (i + 1)) 0)) : ∃ τ, fX9_go_b269 (fX9_go_b177 N) 304 (bI (isL (T p))) (bI (gd_ T p (i + 1))) (nI (T (p + i))) σ1 = fX9_go_b313 304 (bI (isL (T p))) (bI (gd_ T p (ren T L (k + 1) (p + i) - p))) τ ∧ Fr gq σ τ ∧ gI τ 304 4 = nI (ren T L (k + 1) (p + i)) ∧ gI τ 304 5 = nI p ∧ ((seg T p (ren T L (k + 1) (p + i) - p)).all isD = true → ren T L (k + 1) (p + i) - p ≤ 6 → gI τ 304 7 = nI (enc 10 48 (seg T p (ren T L (k + 1) (p + i) - p)) 0)) ∧ ((seg T p (ren T L (k + 1) (p + i) - p)).all isL = true → ren T L (k + 1) (p + i) - p ≤ 8 → gJ τ 304 10 = lN (enc 27 96 (seg T p (ren T L (k + 1) (p + i) - p)) 0)) := by
          have S1 := F1.1
          have g4 : gI σ1 304 4 = nI (p + i) := (F1.2 304 4 (by omega)).1.trans e4
          have g5 : gI σ1 304 5 = nI p := (F1.2 304 5 (by omega)).1.trans e5
          have last (σ2 : Mem) (F2 : Fr (fun c k => c = 304 ∧ k = 7) σ1 σ2) (hn2 : (seg T p (i + 1)).all isD = true → i + 1 ≤ 6 → gI σ2 304 7 = nI (enc 10 48 (seg T p (i + 1)) 0)) : ∃ τ, fX9_go_b300 (fX9_go_b177 N) 304 (bI (isL (T p))) (bI (gd_ T p (i + 1))) σ2 = fX9_go_b313 304 (bI (isL (T p))) (bI (gd_ T p (ren T L (k + 1) (p + i) - p))) τ ∧ Fr gq σ τ ∧ gI τ 304 4 = nI (ren T L (k + 1) (p + i)) ∧ gI τ 304 5 = nI p ∧ ((seg T p (ren T L (k + 1) (p + i) - p)).all isD = true → ren T L (k + 1) (p + i) - p ≤ 6 → gI τ 304 7 = nI (enc 10 48 (seg T p (ren T L (k + 1) (p + i) - p)) 0)) ∧ ((seg T p (ren T L (k + 1) (p + i) - p)).all isL = true → ren T L (k + 1) (p + i) - p ≤ 8 → gJ τ 304 10 = lN (enc 27 96 (seg T p (ren T L (k + 1) (p + i) - p)) 0)) := by
            have S2 := F2.1
            have F3 : Fr gq σ (sI σ2 304 4 (nI (p + (i + 1)))) := Fr.cI (Fr.trans F1 F2 (by intro c k h; unfold gq; omega) (by intro c k h; unfold gq; omega)) (by unfold gq; omega)
            rw [e, if_pos ⟨c, ca⟩, Nat.add_assoc p i 1]
            obtain ⟨τ, t1, t2, t3⟩ := ih (i + 1) N _ F3.1 (tq_fr F3 (by unfold gq; omega) ht) (by rw [(F3.2 304 3 (by unfold gq; omega)).1]; exact e3) gI_sI1 (by rw [gI_sI2 (by omega), (F2.2 304 5 (by omega)).1]; exact g5) (by omega) (by omega) (by omega) (fun a1 a2 => by rw [gI_sI2 (by omega)]; exact hn2 a1 a2) (fun a1 a2 => by rw [rdJI, (F2.2 304 10 (by omega)).2.1]; exact hl1 a1 a2)
            refine ⟨τ, ?_, Fr.tr F3 t2, t3⟩
            unfold fX9_go_b300
            rw [u_fI304 S2, bs, (F2.2 304 4 (by omega)).1, g4, u_pI304 S2, bs, nI_1]
            exact t1
          unfold fX9_go_b269
          rw [u_fI304 S1, bs, u_fI304 S1, bs, g4, g5, pk_sub (by omega), Nat.add_sub_cancel_left]
          by_cases c6 : 6 ≤ i
          · rw [w_6, if_pos (nI_le c6 (by omega))]
            exact last σ1 (Fr.refl S1) (fun a1 a2 => by omega)
          · rw [w_6, if_neg (nI_ge (by omega) (by decide)), u_fI304 S1, bs, u_pI304 S1, bs]
            refine last _ (Fr.cI (Fr.refl S1) (by omega)) (fun a1 a2 => ?_)
            rw [es, List.all_append, Bool.and_eq_true] at a1
            have hd : isD (T (p + i)) = true := by simpa using a1.2
            unfold isD at hd
            simp only [Bool.and_eq_true, decide_eq_true_eq] at hd
            rw [gI_sI1, (F1.2 304 7 (by omega)).1, hn a1.1 (by omega), es, enc_app, w_10, pk_mul, nI_add, w_48, pk_sub (by omega), show 10 * enc 10 48 (seg T p i) 0 + T (p + i) - 48 = enc 10 48 (seg T p i) 0 * 10 + (T (p + i) - 48) by omega]
        by_cases c8 : 8 ≤ i
        · rw [w_8, if_pos (nI_le c8 (by omega))]
          exact fin σ (Fr.refl hS) (fun a1 a2 => by omega)
        · rw [w_8, if_neg (nI_ge (by omega) (by decide)), u_fJ304 hS, bs, u_pJ304 hS, bs]
          refine fin _ (Fr.cJ (Fr.refl hS) (by omega)) (fun a1 a2 => ?_)
          rw [es, List.all_append, Bool.and_eq_true] at a1
          have hd : isL (T (p + i)) = true := by simpa using a1.2
          unfold isL at hd
          simp only [Bool.and_eq_true, decide_eq_true_eq] at hd
          rw [gJ_sJ1, hl a1.1 (by omega), es, enc_app, nI_l (by omega), show (27 : Int64) = lN 27 from rfl, lN_mul, lN_add, show (96 : Int64) = lN 96 from rfl, lN_sub (by omega), show 27 * enc 27 96 (seg T p i) 0 + T (p + i) - 96 = enc 27 96 (seg T p i) 0 * 27 + (T (p + i) - 96) by omega]
      cases hl' : isL (T (p + i)) with
      | true =>
        rw [if_pos rfl, if_neg (by decide)]
        exact step (by simp [hl'])
      | false =>
        rw [if_neg (show ¬ (false = true) by decide), if_pos rfl, u_fI304 hS, bs, e4, u_kT304 hS, bs, eb, b2s, if_pos c, isDg hT, b2s]
        cases hd : isD (T (p + i)) with
        | true =>
          rw [if_pos rfl, if_neg (by decide)]
          exact step (by simp [hd])
        | false =>
          rw [if_neg (show ¬ (false = true) by decide), if_pos rfl]
          exact stop (by rw [e, if_neg (by simp [hd, hl'])])
    · rw [if_neg c, isLt (by decide), b2s, if_pos (by decide), u_fI304 hS, bs, e4, u_kT304 hS, bs, eb, b2s, if_neg c, isDg (by decide), b2s, if_pos (by decide)]
      exact stop (by rw [e, if_neg (fun z => c z.1)])
/-- what the reference knows of a token -/
def kn (t : TK) : Nat := if t.2.1 = 1 then 2 else if t.2.1 = 2 then 3 else if t.1 = 10 then 4 else if t.1 = 11 then 0 else 1
def GK (τ : Mem) (t : TK) : Prop := gI τ 304 5 = nI t.2.2.1 ∧ gI τ 304 6 = nI (kn t) ∧ (((t.1 ≠ 12 ∧ t.1 ≠ 11) ∨ t.2.1 ≠ 0) → gI τ 304 4 = nI t.2.2.2.1) ∧ (t.2.1 = 1 → gJ τ 304 10 = lN (enc 27 96 t.2.2.2.2.2 0)) ∧ (t.2.1 = 2 → gI τ 304 7 = nI t.2.2.2.2.1)
theorem gog {σ : Mem} {L pos : Nat} {T : Nat → Nat} (hS : ST σ) (hL : L ≤ 840) (ht : tq σ T) (hp : pos ≤ L) (e3 : gI σ 304 3 = nI L) (e4 : gI σ 304 4 = nI pos) : ∃ τ, fX9_go 304 σ = some τ ∧ Fr gq σ τ ∧ GK τ (tok T L pos) := by
  obtain ⟨σ1, a1, a2, a3⟩ := go0 (T := T) hL 840 pos FU σ hS ht e3 e4 hp (by omega) (by unfold FU; omega)
  obtain ⟨s1, s2, -, -⟩ := skb_f (T := T) (L := L) 840 pos hp (by omega)
  unfold fX9_go tok
  rw [a1]
  generalize skb T L 840 pos = p at *
  have S1 := a2.1
  have S2 := q_sI S1 304 5 (nI p)
  have F2 : Fr gq σ (sI σ1 304 5 (nI p)) := Fr.cI (Fr.mono a2 (by intro c k h; unfold gq; omega)) (by unfold gq; omega)
  have g3 : gI (sI σ1 304 5 (nI p)) 304 3 = nI L := by rw [(F2.2 304 3 (by unfold gq; omega)).1]; exact e3
  have g4 : gI (sI σ1 304 5 (nI p)) 304 4 = nI p := by rw [gI_sI2 (by omega)]; exact a3
  have g5 : gI (sI σ1 304 5 (nI p)) 304 5 = nI p := gI_sI1
  have ht2 := tq_fr F2 (by unfold gq; omega) ht
  unfold fX9_go_b52
  rw [u_fI304 S1, bs, a3, u_pI304 S1, bs]
  generalize sI σ1 304 5 (nI p) = σ2 at *
  rw [u_fI304 S2, bs, g3, w_800]
  unfold tokA
  by_cases c1 : 800 < L ∧ 800 ≤ p
  · rw [if_neg (nI_ge c1.1 (by omega)), u_fI304 S2, bs, g5, if_neg (nI_nlt c1.2 (by omega)), u_pI304 S2, bs, u_pI304 (q_sI S2 _ _ _), bs, if_pos c1]
    refine ⟨_, rfl, Fr.cI (Fr.cI F2 (by unfold gq; omega)) (by unfold gq; omega), ?_, ?_, fun h => ?_, (fun h => by cases h), (fun h => by cases h)⟩
    · rw [gI_sI2 (by omega), gI_sI1]
    · rw [gI_sI1]; rfl
    · rcases h with ⟨h, -⟩ | h <;> exact absurd rfl h
  · have b93 : ∃ τ, fX9_go_b93 304 σ2 = some τ ∧ Fr gq σ τ ∧ GK τ (if L ≤ p then (11, 0, p, p, 0, []) else if T p = 59 then (10, 0, p, p + 1, 0, []) else if isNb (seg T p (ren T L 840 p - p)) = true then (wd (seg T p (ren T L 840 p - p)), 1, p, ren T L 840 p, 0, seg T p (ren T L 840 p - p)) else if isMb (seg T p (ren T L 840 p - p)) = true then (12, 2, p, ren T L 840 p, enc 10 48 (seg T p (ren T L 840 p - p)) 0, []) else (12, 0, p, ren T L 840 p, 0, [])) := by
      unfold fX9_go_b93
      rw [u_fI304 S2, bs, u_fI304 S2, bs, g4, g3]
      by_cases c2 : L ≤ p
      · rw [if_neg (nI_nlt c2 (by omega)), u_pI304 S2, bs, if_pos c2]
        refine ⟨_, rfl, Fr.cI F2 (by unfold gq; omega), ?_, ?_, fun h => ?_, (fun h => by cases h), (fun h => by cases h)⟩
        · rw [gI_sI2 (by omega)]; exact g5
        · rw [gI_sI1]; rfl
        · rcases h with ⟨-, h⟩ | h <;> exact absurd rfl h
      · obtain ⟨hT, hT2⟩ := ht2 p (by omega)
        obtain ⟨r1, r2, r3, r4⟩ := ren_f (T := T) (L := L) 840 p (by omega) (by omega)
        have sl := seg_len T p (ren T L 840 p - p)
        have e840 : ren T L 840 p = if p < L ∧ (isL (T p) || isD (T p)) = true then ren T L 839 (p + 1) else p := rfl
        rw [if_pos (nI_lt (by omega) (by omega)), u_R304_1 S2, bs, bs, u_a305 S2 (by omega), bs, hT2, if_neg c2, isLt hT, b2s]
        -- a run
        have run (ca : (isL (T p) || isD (T p)) = true) : ∃ τ, fX9_go_b160 304 (nI (T p)) σ2 = some τ ∧ Fr gq σ τ ∧ GK τ (if T p = 59 then (10, 0, p, p + 1, 0, []) else if isNb (seg T p (ren T L 840 p - p)) = true then (wd (seg T p (ren T L 840 p - p)), 1, p, ren T L 840 p, 0, seg T p (ren T L 840 p - p)) else if isMb (seg T p (ren T L 840 p - p)) = true then (12, 2, p, ren T L 840 p, enc 10 48 (seg T p (ren T L 840 p - p)) 0, []) else (12, 0, p, ren T L 840 p, 0, [])) := by
          have n59 : T p ≠ 59 := by
            intro h
            rw [h] at ca
            exact absurd ca (by decide)
          rw [if_neg n59]
          have S4 := q_sI (q_sJ S2 304 10 0) 304 7 0
          have F4 : Fr gq σ2 (sI (sJ σ2 304 10 0) 304 7 0) := Fr.cI (Fr.cJ (Fr.refl S2) (by unfold gq; omega)) (by unfold gq; omega)
          obtain ⟨τ, t1, t2, t3, t4, t5, t6⟩ := go177 (T := T) (p := p) hL (by omega) 840 0 FU _ S4 (tq_fr F4 (by unfold gq; omega) ht2) (by rw [gI_sI2 (by omega), rdIJ]; exact g3) (by rw [gI_sI2 (by omega), rdIJ]; exact g4) (by rw [gI_sI2 (by omega), rdIJ]; exact g5) (by omega) (by omega) (by unfold FU; omega) (fun _ _ => gI_sI1) (fun _ _ => by rw [rdJI, gJ_sJ1]; rfl)
          rw [Nat.add_zero] at t1 t3 t5 t6
          have F : Fr gq σ τ := Fr.tr F2 (Fr.tr F4 t2)
          have hr : p < ren T L 840 p := by
            rw [e840, if_pos ⟨by omega, ca⟩]
            have := (ren_f (T := T) (L := L) 839 (p + 1) (by omega) (by omega)).1
            omega
          obtain ⟨d1, d2⟩ := gd_f (T := T) (p := p) (ren T L 840 p - p) (by omega) (fun i hi => r3 (p + i) (by omega) (by omega))
          have b160 : fX9_go_b160 304 (nI (T p)) σ2 = fX9_go_b313 304 (bI (isL (T p))) (bI (gd_ T p (ren T L 840 p - p))) τ := by
            unfold fX9_go_b160
            rw [isLt hT, b2s, u_pJ304 S2, bs, u_pI304 (q_sJ S2 _ _ _), bs]
            exact t1
          rw [b160]
          have nb : isNb (seg T p (ren T L 840 p - p)) = true ↔ (isL (T p) = true ∧ gd_ T p (ren T L 840 p - p) = true) ∧ ren T L 840 p - p ≤ 8 := by
            unfold isNb
            simp only [Bool.and_eq_true, decide_eq_true_eq, sl]
            rw [d1]
            constructor
            · rintro ⟨⟨h1, h2⟩, h3⟩; exact ⟨h3, h2⟩
            · rintro ⟨h3, h2⟩; exact ⟨⟨by omega, h2⟩, h3⟩
          have mb : isMb (seg T p (ren T L 840 p - p)) = true ↔ (isL (T p) = false ∧ gd_ T p (ren T L 840 p - p) = true) ∧ ren T L 840 p - p ≤ 6 := by
            unfold isMb
            simp only [Bool.and_eq_true, decide_eq_true_eq, sl]
            rw [d2]
            constructor
            · rintro ⟨⟨h1, h2⟩, h3⟩; exact ⟨h3, h2⟩
            · rintro ⟨h3, h2⟩; exact ⟨⟨by omega, h2⟩, h3⟩
          generalize ren T L 840 p = q at *
          have wrong (hn : ¬ isNb (seg T p (q - p)) = true) (hm : ¬ isMb (seg T p (q - p)) = true) : ∃ υ, fX9_go_b354 1 (some 304) τ = some υ ∧ Fr gq σ υ ∧ GK υ (if isNb (seg T p (q - p)) = true then (wd (seg T p (q - p)), 1, p, q, 0, seg T p (q - p)) else if isMb (seg T p (q - p)) = true then (12, 2, p, q, enc 10 48 (seg T p (q - p)) 0, []) else (12, 0, p, q, 0, [])) := by
            unfold fX9_go_b354
            rw [u_pI304 t2.1, bs, if_neg hn, if_neg hm]
            refine ⟨_, rfl, Fr.cI F (by unfold gq; omega), ?_, ?_, fun h => ?_, (fun h => by cases h), (fun h => by cases h)⟩
            · rw [gI_sI2 (by omega)]; exact t4
            · rw [gI_sI1]; rfl
            · rcases h with ⟨h, -⟩ | h <;> exact absurd rfl h
          unfold fX9_go_b313
          cases hg : gd_ T p (q - p) with
          | false =>
            rw [hg] at nb mb
            rw [if_pos (show bI false = 0 from rfl)]
            exact wrong (fun h => by have := (nb.mp h).1.2; cases this) (fun h => by have := (mb.mp h).1.2; cases this)
          | true =>
            rw [hg] at nb mb d1 d2
            rw [if_neg (show ¬ bI true = 0 by decide), u_fI304 t2.1, bs, u_fI304 t2.1, bs, t3, t4, pk_sub (by omega)]
            unfold fX9_go_b338
            cases hl : isL (T p) with
            | false =>
              rw [hl] at nb mb d1 d2
              rw [if_pos (show bI false = 0 from rfl)]
              by_cases c6 : q - p ≤ 6
              · have hm : isMb (seg T p (q - p)) = true := mb.mpr ⟨⟨rfl, rfl⟩, c6⟩
                have hn : ¬ isNb (seg T p (q - p)) = true := fun h => by have := (nb.mp h).1.1; cases this
                rw [w_6, if_pos (nI_le c6 (by decide)), if_pos (show bI false = 0 from rfl)]
                unfold fX9_go_b354
                rw [u_pI304 t2.1, bs, if_neg hn, if_pos hm]
                refine ⟨_, rfl, Fr.cI F (by unfold gq; omega), ?_, ?_, fun h => ?_, (fun h => absurd h (by decide : ¬ (2 : Nat) = 1)), (fun h => ?_)⟩
                · rw [gI_sI2 (by omega)]; exact t4
                · rw [gI_sI1]; rfl
                · rw [gI_sI2 (by omega)]; exact t3
                · rw [gI_sI2 (by omega)]; exact t5 (d2.mpr ⟨rfl, rfl⟩) c6
              · rw [w_6, if_neg (nI_ge (by omega) (by omega))]
                exact wrong (fun h => by have := (nb.mp h).1.1; cases this) (fun h => c6 (mb.mp h).2)
            | true =>
              rw [hl] at nb mb d1 d2
              rw [if_neg (show ¬ bI true = 0 by decide)]
              by_cases c8 : q - p ≤ 8
              · have hn : isNb (seg T p (q - p)) = true := nb.mpr ⟨⟨rfl, rfl⟩, c8⟩
                rw [w_8, if_pos (nI_le c8 (by decide)), if_neg (show ¬ bI true = 0 by decide)]
                unfold fX9_go_b354
                rw [u_pI304 t2.1, bs, if_pos hn]
                refine ⟨_, rfl, Fr.cI F (by unfold gq; omega), ?_, ?_, fun h => ?_, (fun h => ?_), (fun h => absurd h (by decide : ¬ (1 : Nat) = 2))⟩
                · rw [gI_sI2 (by omega)]; exact t4
                · rw [gI_sI1]; rfl
                · rw [gI_sI2 (by omega)]; exact t3
                · rw [rdJI]; exact t6 (d1.mpr ⟨rfl, rfl⟩) c8
              · rw [w_8, if_neg (nI_ge (by omega) (by omega))]
                exact wrong (fun h => c8 (nb.mp h).2) (fun h => by have := (mb.mp h).1.1; cases this)
        cases hl : isL (T p) with
        | true =>
          rw [if_pos rfl, if_neg (by decide)]
          exact run (by simp [hl])
        | false =>
          rw [if_neg (show ¬ (false = true) by decide), if_pos rfl, isDg hT, b2s]
          cases hd : isD (T p) with
          | true =>
            rw [if_pos rfl, if_neg (by decide)]
            exact run (by simp [hd])
          | false =>
            rw [if_neg (show ¬ (false = true) by decide), if_pos rfl]
            have er : ren T L 840 p = p := by rw [e840, if_neg (by simp [hl, hd])]
            have n1 : ¬ isNb (seg T p (ren T L 840 p - p)) = true := by rw [er, Nat.sub_self]; exact (by decide : ¬ isNb [] = true)
            have n2 : ¬ isMb (seg T p (ren T L 840 p - p)) = true := by rw [er, Nat.sub_self]; exact (by decide : ¬ isMb [] = true)
            rw [if_neg n1, if_neg n2]
            unfold fX9_go_b146
            by_cases c3 : T p = 59
            · rw [if_pos (by rw [c3]; rfl), if_pos c3, u_pI304 S2, bs, u_fI304 (q_sI S2 _ _ _), bs, gI_sI2 (by omega), g4, u_pI304 (q_sI S2 _ _ _), bs, nI_1]
              refine ⟨_, rfl, Fr.cI (Fr.cI F2 (by unfold gq; omega)) (by unfold gq; omega), ?_, ?_, fun h => ?_, (fun h => by cases h), (fun h => by cases h)⟩
              · rw [gI_sI2 (by omega), gI_sI2 (by omega)]; exact g5
              · rw [gI_sI2 (by omega), gI_sI1]; rfl
              · exact gI_sI1
            · rw [if_neg (by rw [w_59, nI_eq (by omega) (by decide)]; exact c3), if_neg c3, u_pI304 S2, bs, u_fI304 (q_sI S2 _ _ _), bs, gI_sI2 (by omega), g4, u_pI304 (q_sI S2 _ _ _), bs]
              refine ⟨_, rfl, Fr.cI (Fr.cI F2 (by unfold gq; omega)) (by unfold gq; omega), ?_, ?_, fun h => ?_, (fun h => by cases h), (fun h => by cases h)⟩
              · rw [gI_sI2 (by omega), gI_sI2 (by omega)]; exact g5
              · rw [gI_sI2 (by omega), gI_sI1]; rfl
              · rcases h with ⟨h, -⟩ | h <;> exact absurd rfl h
    rw [if_neg c1]
    by_cases c2 : L ≤ 800
    · rw [if_pos (nI_le c2 (by decide))]
      exact b93
    · rw [if_neg (nI_ge (by omega) (by omega)), u_fI304 S2, bs, g5, if_pos (nI_lt (by omega) (by decide))]
      exact b93
