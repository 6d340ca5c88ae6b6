/-! the world in numbers: a part is (free, steps, ends, cents, rest), a plan (fee, term, first, last, services, parts), the world (plans, plan, uses, change) -/
abbrev PD : Type := Nat × Nat × (Nat → Nat) × (Nat → Nat) × Nat
abbrev LD : Type := Nat × Nat × Nat × Nat × Nat × (Nat → PD)
abbrev WD : Type := Nat × (Nat → LD) × (Nat → Nat) × Nat
def okP (d : PD) : Prop := d.1 ≤ 20000 ∧ d.2.1 ≤ 3 ∧ (∀ i, i < d.2.1 → 1 ≤ d.2.2.1 i ∧ d.2.2.1 i ≤ 20000 ∧ d.2.2.2.1 i ≤ 9999) ∧ (∀ i, i + 1 < d.2.1 → d.2.2.1 i < d.2.2.1 (i + 1)) ∧ d.2.2.2.2 ≤ 9999
def okL (l : LD) : Prop := l.1 ≤ 999999 ∧ 1 ≤ l.2.1 ∧ l.2.1 ≤ 24 ∧ l.2.2.1 ≤ l.2.2.2.1 ∧ l.2.2.2.1 ≤ 23 ∧ l.2.2.2.2.1 < 16 ∧ ∀ s, s < 4 → l.2.2.2.2.1.testBit s = true → okP (l.2.2.2.2.2 s)
def okW (w : WD) : Prop := w.1 ≤ 10 ∧ (∀ p, p < w.1 → okL (w.2.1 p)) ∧ (∀ i, i < 384 → w.2.2.1 i ≤ 20000) ∧ w.2.2.2 ≤ 100000
def HP (σ : Mem) (q : Nat) (d : PD) : Prop := gI σ q 2 = nI d.1 ∧ gI σ q 3 = nI d.2.1 ∧ gI σ q 4 = nI d.2.2.2.2 ∧ ∀ i, i < d.2.1 → gI σ (q + 1) i = nI (d.2.2.1 i) ∧ gI σ (q + 2) i = nI (d.2.2.2.1 i)
def HM (σ : Mem) (k : Nat) (d : PD) : Prop := gI σ 312 k = nI d.1 ∧ gI σ 313 k = nI d.2.1 ∧ gI σ 316 k = nI d.2.2.2.2 ∧ ∀ i, i < d.2.1 → gI σ 314 (3 * k + i) = nI (d.2.2.1 i) ∧ gI σ 315 (3 * k + i) = nI (d.2.2.2.1 i)
def HL8 (σ : Mem) (b p : Nat) (l : LD) : Prop := gI σ (Pl b p) 3 = nI l.1 ∧ gI σ (Pl b p) 4 = nI l.2.1 ∧ gI σ (Pl b p) 5 = nI l.2.2.1 ∧ gI σ (Pl b p) 6 = nI l.2.2.2.1 ∧ gI σ (Pl b p) 7 = nI l.2.2.2.2.1 ∧ ∀ s, s < 4 → l.2.2.2.2.1.testBit s = true → HP σ (Pt b p s) (l.2.2.2.2.2 s)
def HL9 (σ : Mem) (r : Nat) (l : LD) : Prop := gI σ 307 r = nI l.1 ∧ gI σ 308 r = nI l.2.1 ∧ gI σ 309 r = nI l.2.2.1 ∧ gI σ 310 r = nI l.2.2.2.1 ∧ ∀ s, s < 4 → gI σ 311 (4 * r + s) = (if l.2.2.2.2.1.testBit s then 1 else 0) ∧ (l.2.2.2.2.1.testBit s = true → HM σ (4 * r + s) (l.2.2.2.2.2 s))
def H8 (σ : Mem) (b : Nat) (w : WD) : Prop := isB b ∧ gI σ b 1 = nI w.1 ∧ (∀ p, p < w.1 → HL8 σ b p (w.2.1 p)) ∧ (∀ i, i < 384 → gI σ 147 i = nI (w.2.2.1 i)) ∧ gI σ 0 9 = nI w.2.2.2
def H9 (σ : Mem) (w : WD) : Prop := gI σ 304 22 = nI w.1 ∧ (∀ p, p < w.1 → HL9 σ p (w.2.1 p)) ∧ (∀ i, i < 384 → gI σ 318 i = nI (w.2.2.1 i)) ∧ gI σ 304 28 = nI w.2.2.2
theorem cl_of {n : Nat} {x : Int32} (h : bN n x) (hn : n < 2 ^ 31) : x = nI x.toNatClampNeg ∧ x.toNatClampNeg ≤ n := by
  obtain ⟨t, ht, rfl⟩ := h
  rw [nI_clamp (by omega)]
  exact ⟨rfl, ht⟩
theorem cl_eq {t : Nat} {x : Int32} (h : x = nI t) (ht : t < 2 ^ 31) : x.toNatClampNeg = t := by rw [h, nI_clamp ht]
def pdOf (σ : Mem) (k : Nat) : PD := ((gI σ 312 k).toNatClampNeg, (gI σ 313 k).toNatClampNeg, (fun i => (gI σ 314 (3 * k + i)).toNatClampNeg), (fun i => (gI σ 315 (3 * k + i)).toNatClampNeg), (gI σ 316 k).toNatClampNeg)
def ldOf (σ : Mem) (b r : Nat) : LD := ((gI σ 307 r).toNatClampNeg, (gI σ 308 r).toNatClampNeg, (gI σ 309 r).toNatClampNeg, (gI σ 310 r).toNatClampNeg, (gI σ (Pl b r) 7).toNatClampNeg, (fun s => pdOf σ (4 * r + s)))
def wdOf (σ : Mem) (b : Nat) : WD := ((gI σ 304 22).toNatClampNeg, ldOf σ b, (fun i => (gI σ 318 i).toNatClampNeg), (gI σ 304 28).toNatClampNeg)
theorem pd_ok {σ : Mem} {q k : Nat} (h : R_part σ q k) : okP (pdOf σ k) ∧ HP σ q (pdOf σ k) ∧ HM σ k (pdOf σ k) := by
  obtain ⟨h1, h2, h3, h4, h5, n, hn, e1, en, e2, e3⟩ := h
  obtain ⟨f1, f2⟩ := cl_of (h1 ▸ h2) (by decide)
  obtain ⟨r1, r2⟩ := cl_of (h4 ▸ h5) (by decide)
  have n1 : gI σ 313 k = nI n := h3.symm.trans e1
  have n2 : (gI σ 313 k).toNatClampNeg = n := cl_eq n1 (by omega)
  have E (i : Nat) (hi : i < n) : (gI σ 314 (3 * k + i)).toNatClampNeg = en i := cl_eq (e2 i hi).2.1 (by have := (e2 i hi).2.2.2.1; omega)
  have C (i : Nat) (hi : i < n) : gI σ 315 (3 * k + i) = nI (gI σ 315 (3 * k + i)).toNatClampNeg ∧ (gI σ 315 (3 * k + i)).toNatClampNeg ≤ 9999 := by
    obtain ⟨-, -, -, -, c1, c2⟩ := e2 i hi
    exact cl_of (c1 ▸ c2) (by decide)
  refine ⟨⟨f2, ?_, fun i hi => ?_, fun i hi => ?_, r2⟩, ⟨h1.trans f1, ?_, h4.trans r1, fun i hi => ?_⟩, ⟨f1, ?_, r1, fun i hi => ?_⟩⟩
  · show (gI σ 313 k).toNatClampNeg ≤ 3
    omega
  · have hi : i < n := by rw [← n2]; exact hi
    refine ⟨?_, ?_, (C i hi).2⟩
    · show 1 ≤ (gI σ 314 (3 * k + i)).toNatClampNeg
      rw [E i hi]; exact (e2 i hi).2.2.1
    · show (gI σ 314 (3 * k + i)).toNatClampNeg ≤ 20000
      rw [E i hi]; exact (e2 i hi).2.2.2.1
  · have hi : i + 1 < n := by rw [← n2]; exact hi
    show (gI σ 314 (3 * k + i)).toNatClampNeg < (gI σ 314 (3 * k + (i + 1))).toNatClampNeg
    rw [E i (by omega), E (i + 1) hi]
    exact e3 i hi
  · show gI σ q 3 = nI (gI σ 313 k).toNatClampNeg
    rw [n2]; exact e1
  · have hi : i < n := by rw [← n2]; exact hi
    obtain ⟨c0, c1, c2, c3, c4, c5⟩ := e2 i hi
    refine ⟨?_, c4.trans (C i hi).1⟩
    show _ = nI (gI σ 314 (3 * k + i)).toNatClampNeg
    rw [E i hi]; exact c0
  · show gI σ 313 k = nI (gI σ 313 k).toNatClampNeg
    rw [n2]; exact n1
  · have hi : i < n := by rw [← n2]; exact hi
    obtain ⟨c0, c1, c2, c3, c4, c5⟩ := e2 i hi
    refine ⟨?_, (C i hi).1⟩
    show _ = nI (gI σ 314 (3 * k + i)).toNatClampNeg
    rw [E i hi]; exact c1
theorem ld_ok {σ : Mem} {b p : Nat} (h : R_plan σ (Pl b p) p) : okL (ldOf σ b p) ∧ HL8 σ b p (ldOf σ b p) ∧ HL9 σ p (ldOf σ b p) := by
  obtain ⟨a1, a2, a3, ⟨t, t1, t2, t3⟩, a5, a6, ⟨x, y, x1, x2, x3, x4⟩, -, sv, s1, s2, s3⟩ := h
  obtain ⟨f1, f2⟩ := cl_of (a1 ▸ a2) (by decide)
  have q1 : (gI σ 308 p).toNatClampNeg = t := cl_eq (a3.symm.trans t3) (by omega)
  have q2 : (gI σ 309 p).toNatClampNeg = x := cl_eq (a5.symm.trans x3) (by omega)
  have q3 : (gI σ 310 p).toNatClampNeg = y := cl_eq (a6.symm.trans x4) (by omega)
  have q4 : (gI σ (Pl b p) 7).toNatClampNeg = sv := cl_eq s2 (by omega)
  have e : ldOf σ b p = ((gI σ 307 p).toNatClampNeg, t, x, y, sv, (fun s => pdOf σ (4 * p + s))) := by
    unfold ldOf
    rw [q1, q2, q3, q4]
  rw [e]
  refine ⟨⟨f2, t1, t2, x1, x2, s1, fun s hs ht => (pd_ok ((s3 s hs).2 ht)).1⟩, ⟨a1.trans f1, t3, x3, x4, s2, fun s hs ht => (pd_ok ((s3 s hs).2 ht)).2.1⟩, ⟨f1, a3.symm.trans t3, a5.symm.trans x3, a6.symm.trans x4, fun s hs => ⟨(s3 s hs).1, fun ht => (pd_ok ((s3 s hs).2 ht)).2.2⟩⟩⟩
theorem wd_of {σ : Mem} (h : Rel σ) : ∃ b w, okW w ∧ H8 σ b w ∧ H9 σ w ∧ gR σ 0 8 = some b := by
  obtain ⟨h0, h1, h2, h3, h4, h5, h6, h7, h8, h9⟩ := h
  obtain ⟨b, P, hb, hP, e1, e2, e3, e4⟩ := bk_of h9
  have p1 : (gI σ 304 22).toNatClampNeg = P := cl_eq e3 (by omega)
  obtain ⟨c1, c2⟩ := cl_of (h4.1 ▸ h4.2) (by decide)
  have u (i : Nat) (hi : i < 384) : gI σ 318 i = nI (gI σ 318 i).toNatClampNeg ∧ (gI σ 318 i).toNatClampNeg ≤ 20000 := by
    obtain ⟨u1, u2⟩ := h3 i hi
    exact cl_of (u1 ▸ u2) (by decide)
  refine ⟨b, wdOf σ b, ⟨?_, fun p hp => ?_, fun i hi => (u i hi).2, c2⟩, ⟨hb, ?_, fun p hp => ?_, fun i hi => (h3 i hi).1.trans (u i hi).1, h4.1.trans c1⟩, ⟨?_, fun p hp => ?_, fun i hi => (u i hi).1, c1⟩, e1⟩
  · show (gI σ 304 22).toNatClampNeg ≤ 10
    omega
  · exact (ld_ok (e4 p (by rw [← p1]; exact hp))).1
  · show gI σ b 1 = nI (gI σ 304 22).toNatClampNeg
    rw [p1]; exact e2
  · exact (ld_ok (e4 p (by rw [← p1]; exact hp))).2.1
  · show gI σ 304 22 = nI (gI σ 304 22).toNatClampNeg
    rw [p1]; exact e3
  · exact (ld_ok (e4 p (by rw [← p1]; exact hp))).2.2
theorem inBPl {b p : Nat} (hb : isB b) (hp : p < 10) : inBk (Pl b p) := inB1 hb hp (j := 0) (by decide)
theorem inBPt {b p s j : Nat} (hb : isB b) (hp : p < 10) (hs : s < 4) (hj : j < 3) : inBk (Pt b p s + j) := (show Pt b p s + j = b + 2 + 14 * p + (2 + 3 * s + j) by unfold Pt; omega) ▸ inB1 hb hp (j := 2 + 3 * s + j) (by omega)
theorem inBb {b : Nat} (hb : isB b) : inBk b := by rcases hb with rfl | rfl <;> simp [inBk]
theorem HP_fr {σ τ : Mem} {b p s : Nat} (hb : isB b) (hp : p < 10) (hs : s < 4) (hI : ∀ c, inBk c → gI τ c = gI σ c) {d : PD} (h : HP σ (Pt b p s) d) : HP τ (Pt b p s) d := by
  unfold HP at h ⊢
  rw [hI (Pt b p s) (inBPt hb hp hs (j := 0) (by decide)), hI _ (inBPt hb hp hs (j := 1) (by decide)), hI _ (inBPt hb hp hs (j := 2) (by decide))]
  exact h
theorem HM_fr {σ τ : Mem} {k : Nat} (hI : ∀ c, inBk c → gI τ c = gI σ c) {d : PD} (h : HM σ k d) : HM τ k d := by
  unfold HM at h ⊢
  rw [hI 312 (Or.inr (Or.inr (by decide))), hI 313 (Or.inr (Or.inr (by decide))), hI 314 (Or.inr (Or.inr (by decide))), hI 315 (Or.inr (Or.inr (by decide))), hI 316 (Or.inr (Or.inr (by decide)))]
  exact h
theorem HL8_fr {σ τ : Mem} {b p : Nat} (hb : isB b) (hp : p < 10) (hI : ∀ c, inBk c → gI τ c = gI σ c) {l : LD} (h : HL8 σ b p l) : HL8 τ b p l := by
  unfold HL8 at h ⊢
  rw [hI _ (inBPl hb hp)]
  exact ⟨h.1, h.2.1, h.2.2.1, h.2.2.2.1, h.2.2.2.2.1, fun s hs ht => HP_fr hb hp hs hI (h.2.2.2.2.2 s hs ht)⟩
theorem HL9_fr {σ τ : Mem} {p : Nat} (hI : ∀ c, inBk c → gI τ c = gI σ c) {l : LD} (h : HL9 σ p l) : HL9 τ p l := by
  unfold HL9 at h ⊢
  rw [hI 307 (Or.inr (Or.inr (by decide))), hI 308 (Or.inr (Or.inr (by decide))), hI 309 (Or.inr (Or.inr (by decide))), hI 310 (Or.inr (Or.inr (by decide))), hI 311 (Or.inr (Or.inr (by decide)))]
  exact ⟨h.1, h.2.1, h.2.2.1, h.2.2.2.1, fun s hs => ⟨(h.2.2.2.2 s hs).1, fun ht => HM_fr hI ((h.2.2.2.2 s hs).2 ht)⟩⟩
theorem H8_fr {σ τ : Mem} {b : Nat} {w : WD} (hw : okW w) (hI : ∀ c, inBk c → gI τ c = gI σ c) (h1 : gI τ 147 = gI σ 147) (h2 : gI τ 0 9 = gI σ 0 9) (h : H8 σ b w) : H8 τ b w := by
  obtain ⟨a1, a2, a3, a4, a5⟩ := h
  exact ⟨a1, by rw [hI b (inBb a1)]; exact a2, fun p hp => HL8_fr a1 (by have := hw.1; omega) hI (a3 p hp), by rw [h1]; exact a4, by rw [h2]; exact a5⟩
theorem H9_fr {σ τ : Mem} {w : WD} (hI : ∀ c, inBk c → gI τ c = gI σ c) (h1 : gI τ 318 = gI σ 318) (h2 : gI τ 304 22 = gI σ 304 22) (h3 : gI τ 304 28 = gI σ 304 28) (h : H9 σ w) : H9 τ w := by
  obtain ⟨a1, a2, a3, a4⟩ := h
  exact ⟨by rw [h2]; exact a1, fun p hp => HL9_fr hI (a2 p hp), by rw [h1]; exact a3, by rw [h3]; exact a4⟩
theorem H8_Fr {p : Nat → Nat → Prop} {σ τ : Mem} {b : Nat} {w : WD} (F : Fr p σ τ) (hw : okW w) (hI : ∀ c, inBk c → ∀ k, ¬ p c k) (h1 : ∀ k, ¬ p 147 k) (h2 : ¬ p 0 9) (h : H8 σ b w) : H8 τ b w := H8_fr hw (fun c hc => F.eI (hI c hc)) (F.eI h1) (F.2 _ _ h2).1 h
theorem H9_Fr {p : Nat → Nat → Prop} {σ τ : Mem} {w : WD} (F : Fr p σ τ) (hI : ∀ c, inBk c → ∀ k, ¬ p c k) (h1 : ∀ k, ¬ p 318 k) (h2 : ¬ p 304 22) (h3 : ¬ p 304 28) (h : H9 σ w) : H9 τ w := H9_fr (fun c hc => F.eI (hI c hc)) (F.eI h1) (F.2 _ _ h2).1 (F.2 _ _ h3).1 h
/-! the cost of a part -/
def ed (d : PD) : Nat → Nat
  | 0 => 0
  | k + 1 => d.2.2.1 k
def sm (d : PD) (x : Nat) : Nat → Nat
  | 0 => 0
  | k + 1 => sm d x k + (min x (ed d (k + 1)) - min x (ed d k)) * d.2.2.2.1 k
def pco (d : PD) (u : Nat) : Nat := sm d (u - d.1) d.2.1 + ((u - d.1) - min (u - d.1) (ed d d.2.1)) * d.2.2.2.2
theorem ed_mono {d : PD} (hd : okP d) {k : Nat} (hk : k < d.2.1) : ed d k < ed d (k + 1) := by
  cases k with
  | zero => exact (hd.2.2.1 0 hk).1
  | succ k => exact hd.2.2.2.1 k hk
theorem ed_le {d : PD} (hd : okP d) {k : Nat} (hk : k ≤ d.2.1) : ed d k ≤ 20000 := by
  cases k with
  | zero => exact Nat.zero_le _
  | succ k => exact (hd.2.2.1 k hk).2.1
theorem sm_le {d : PD} (hd : okP d) (x : Nat) : ∀ k, k ≤ d.2.1 → sm d x k ≤ min x (ed d k) * 9999 := by
  intro k
  induction k with
  | zero => intro _; exact Nat.zero_le _
  | succ k ih =>
    intro hk
    have h1 := ih (by omega)
    have h2 := ed_mono hd hk
    have h3 := (hd.2.2.1 k hk).2.2
    have h4 : (min x (ed d (k + 1)) - min x (ed d k)) * d.2.2.2.1 k ≤ (min x (ed d (k + 1)) - min x (ed d k)) * 9999 := Nat.mul_le_mul_left _ h3
    show sm d x k + (min x (ed d (k + 1)) - min x (ed d k)) * d.2.2.2.1 k ≤ _
    omega
theorem pco_le {d : PD} (hd : okP d) (u : Nat) : pco d u ≤ u * 9999 := by
  have h1 := sm_le hd (u - d.1) d.2.1 (Nat.le_refl _)
  have h2 : ((u - d.1) - min (u - d.1) (ed d d.2.1)) * d.2.2.2.2 ≤ ((u - d.1) - min (u - d.1) (ed d d.2.1)) * 9999 := Nat.mul_le_mul_left _ hd.2.2.2.2
  unfold pco
  omega
theorem sm_stop {d : PD} (hd : okP d) {x k : Nat} (hx : x ≤ ed d k) : ∀ m, k ≤ m → m ≤ d.2.1 → sm d x m = sm d x k ∧ x ≤ ed d m := by
  intro m
  induction m with
  | zero =>
    intro h _
    have : k = 0 := by omega
    subst this
    exact ⟨rfl, hx⟩
  | succ m ih =>
    intro h hm
    by_cases e : k = m + 1
    · subst e; exact ⟨rfl, hx⟩
    · obtain ⟨i1, i2⟩ := ih (by omega) (by omega)
      have := ed_mono hd (k := m) (by omega)
      refine ⟨?_, by omega⟩
      show sm d x m + (min x (ed d (m + 1)) - min x (ed d m)) * d.2.2.2.1 m = _
      rw [show min x (ed d (m + 1)) - min x (ed d m) = 0 by omega, Nat.zero_mul, i1]
      rfl
theorem nI_min {a b : Nat} (ha : a < 2 ^ 31) (hb : b < 2 ^ 31) : (if nI a < nI b then nI a else nI b) = nI (min b a) := by
  by_cases c : a < b
  · rw [if_pos (nI_lt c hb), Nat.min_eq_right (by omega)]
  · rw [if_neg (nI_nlt (by omega) ha), Nat.min_eq_left (by omega)]
theorem cF1 {σ : Mem} {b p s x : Nat} {d : PD} (hS : ST σ) (hb : isB b) (hp : p < 10) (hs : s < 4) (hd : okP d) (h : HP σ (Pt b p s) d) (hx : x ≤ 80000) (n : Nat) : ∀ k, k ≤ d.2.1 → d.2.1 < k + n → fX0_centsFor_b19 n (Pt b p s) (nI x) (nI (min x (ed d k))) (lN (sm d x k)) (nI k) σ = some (lN (sm d x d.2.1 + (x - min x (ed d d.2.1)) * d.2.2.2.2), σ) := by
  obtain ⟨-, h2, h3, h4⟩ := h
  induction n with
  | zero => intro k hk hn; omega
  | succ n ih =>
    intro k hk hn
    have hn3 := hd.2.1
    show ((fI σ 0 3 (some (Pt b p s))).bind _) = _
    rw [v_fIT hS hb hp hs, bs, h2]
    by_cases c : k < d.2.1
    · obtain ⟨e1, e2⟩ := h4 k c
      obtain ⟨o1, o2, o3⟩ := hd.2.2.1 k c
      have m1 := ed_mono hd c
      have m2 : ed d (k + 1) = d.2.2.1 k := rfl
      rw [if_neg (nI_ge c (by omega)), w_3, if_neg (nI_ge (by omega) (by omega)), v_RT0 hS hb hp hs, bs, v_aT1 hS hb hp hs (by omega), bs, e1, bd_, nI_min (by omega) (by omega), v_RT1 hS hb hp hs, bs, v_aT2 hS hb hp hs (by omega), bs, e2, bd_, pk_sub (by omega), nI_l (by omega), nI_l (by omega), lN_mul, lN_add, bd_, nI_1]
      exact ih (k + 1) (by omega) (by omega)
    · have e : k = d.2.1 := by omega
      subst e
      rw [if_pos (nI_le (Nat.le_refl _) (by omega))]
      unfold fX0_centsFor_b75
      rw [v_fIT hS hb hp hs, bs, h3, pk_sub (by omega), nI_l (by omega), nI_l (by have := hd.2.2.2.2; omega), lN_mul, lN_add]
theorem paid_ {u f : Nat} (hu : u < 2 ^ 30) (hf : f < 2 ^ 30) : (if 0 < nI u - nI f then nI u - nI f else 0) = nI (u - f) := by
  by_cases c : f ≤ u
  · rw [pk_sub c]
    by_cases c2 : 0 < u - f
    · rw [if_pos (by rw [w_0]; exact nI_lt c2 (by omega))]
    · rw [show u - f = 0 by omega]; rfl
  · rw [if_neg (fun q => Int32.lt_irrefl (Int32.lt_trans q (pk_sneg hf (by omega)))), show u - f = 0 by omega]
    rfl
theorem cF {σ : Mem} {b p s u : Nat} {d : PD} (hS : ST σ) (hb : isB b) (hp : p < 10) (hs : s < 4) (hd : okP d) (h : HP σ (Pt b p s) d) (hu : u ≤ 80000) : fX0_centsFor (Pt b p s) (nI u) σ = some (lN (pco d u), σ) := by
  unfold fX0_centsFor
  have := hd.1
  rw [v_fIT hS hb hp hs, bs, h.1, paid_ (by omega) (by omega), bd_]
  have := cF1 (x := u - d.1) hS hb hp hs hd h (by omega) FU 0 (Nat.zero_le _) (by have := hd.2.1; unfold FU; omega)
  rw [show min (u - d.1) (ed d 0) = 0 from Nat.min_zero _] at this
  exact this
theorem pC1 {σ : Mem} {kk x : Nat} {d : PD} (hS : ST σ) (hk : kk < 80) (hd : okP d) (h : HM σ kk d) (hx : x ≤ 80000) (n : Nat) : ∀ k, k ≤ d.2.1 → d.2.1 < k + n → fX9_partCost_b24 n 304 (nI kk) (nI (x - ed d k)) (lN (sm d x k)) (nI (ed d k)) (nI k) σ = some (lN (sm d x d.2.1 + (x - min x (ed d d.2.1)) * d.2.2.2.2), σ) := by
  obtain ⟨-, h2, h3, h4⟩ := h
  have fin (l : Nat) (c : Nat) (hl : l < 2 ^ 31) : fX9_partCost_b114 304 (nI kk) (nI l) (lN c) σ = some (lN (c + l * d.2.2.2.2), σ) := by
    unfold fX9_partCost_b114
    rw [u_R304_21 hS, bs, u_a316 hS (by omega), bs, h3, nI_l hl, nI_l (by have := hd.2.2.2.2; omega), lN_mul, lN_add]
  induction n with
  | zero => intro k hk hn; omega
  | succ n ih =>
    intro k hk hn
    have hn3 := hd.2.1
    show ((fR σ 9 18 (some 304)).bind _) = _
    rw [u_R304_18 hS, bs, u_a313 hS (by omega), bs, h2]
    by_cases c : k < d.2.1
    · obtain ⟨e1, e2⟩ := h4 k c
      obtain ⟨o1, o2, o3⟩ := hd.2.2.1 k c
      have m1 := ed_mono hd c
      have m2 : ed d (k + 1) = d.2.2.1 k := rfl
      have m3 := ed_le hd (k := k) (by omega)
      rw [if_neg (nI_ge c (by omega))]
      by_cases c2 : x ≤ ed d k
      · rw [show x - ed d k = 0 by omega, if_pos (by decide), fin _ _ (by decide)]
        obtain ⟨q1, q2⟩ := sm_stop hd c2 d.2.1 (by omega) (Nat.le_refl _)
        rw [q1, show x - min x (ed d d.2.1) = 0 by omega]
      · have st (y : Nat) (hy : y = min x (ed d (k + 1)) - min x (ed d k)) : fX9_partCost_b67 (fX9_partCost_b24 n) 304 (nI kk) (nI (x - ed d k)) (lN (sm d x k)) (nI k) (nI y) σ = some (lN (sm d x d.2.1 + (x - min x (ed d d.2.1)) * d.2.2.2.2), σ) := by
          unfold fX9_partCost_b67
          rw [u_R304_20 hS, bs, w_3, pk_mul, nI_add, u_a315 hS (by omega), bs, e2, nI_l (by omega), nI_l (by omega), lN_mul, lN_add, bd_, pk_sub (by omega), bd_, u_R304_19 hS, bs, u_a314 hS (by omega), bs, e1, bd_, nI_1, show x - ed d k - y = x - ed d (k + 1) by omega, hy]
          exact ih (k + 1) (by omega) (by omega)
        rw [if_neg (by rw [w_0]; exact nI_ge (by omega) (by omega)), u_R304_19 hS, bs, w_3, pk_mul, nI_add, u_a314 hS (by omega), bs, e1, pk_sub (by omega), bd_]
        by_cases c3 : d.2.2.1 k - ed d k ≤ x - ed d k
        · rw [if_pos (nI_le c3 (by omega))]
          exact st _ (by omega)
        · rw [if_neg (nI_ge (by omega) (by omega))]
          exact st _ (by omega)
    · have e : k = d.2.1 := by omega
      subst e
      rw [if_pos (nI_le (Nat.le_refl _) (by omega)), fin _ _ (by omega), show x - ed d d.2.1 = x - min x (ed d d.2.1) by omega]
theorem pC {σ : Mem} {kk u : Nat} {d : PD} (hS : ST σ) (hk : kk < 80) (hd : okP d) (h : HM σ kk d) (hu : u ≤ 80000) : fX9_partCost 304 (nI kk) (nI u) σ = some (lN (pco d u), σ) := by
  unfold fX9_partCost
  have h1 := hd.1
  have h3 := hd.2.1
  have st := pC1 (x := u - d.1) hS hk hd h (by omega) FU 0 (Nat.zero_le _) (by unfold FU; omega)
  rw [u_R304_17 hS, bs, u_a312 hS (by omega), bs, h.1, bd_]
  by_cases c : d.1 < u
  · rw [pk_sub (by omega), if_pos (by rw [w_0]; exact nI_lt (by omega) (by omega))]
    exact st
  · have e : pco d u = 0 := by
      unfold pco
      rw [show u - d.1 = 0 by omega, (sm_stop hd (x := 0) (k := 0) (Nat.zero_le _) d.2.1 (Nat.zero_le _) (Nat.le_refl _)).1, show 0 - min 0 (ed d d.2.1) = 0 by omega, Nat.zero_mul]
      rfl
    rw [e]
    by_cases c2 : d.1 = u
    · rw [c2, pk_sub (Nat.le_refl _), Nat.sub_self, if_neg (by decide)]
      rfl
    · rw [if_neg (fun q => Int32.lt_irrefl (Int32.lt_trans q (pk_sneg (by omega) (by omega))))]
      rfl
