/-! plans -/
theorem R_of {σ : Mem} {b p : Nat} {d : NL} (hN : isN d.1) (hL : okL d.2) (h8 : HN8 σ b p d) (h9 : HN9 σ p d) : R_plan σ (b + 2 + 14 * p) p := by
  obtain ⟨a1, a2, a3, a4, a5, a6, a7, a8⟩ := h8
  obtain ⟨c1, c2, c3, c4, c5, c6⟩ := h9
  obtain ⟨l1, l2, l3, l4, l5, l6, l7⟩ := hL
  refine ⟨a3.trans c2.symm, ⟨_, l1, a3⟩, a4.trans c3.symm, ⟨_, l2, l3, a4⟩, a5.trans c4.symm, a6.trans c5.symm, ⟨_, _, l4, l5, a5, a6⟩, ⟨d.1, hN, a2, a1, c1⟩, _, l6, a7, fun i hi => ⟨(c6 i hi).1, fun ht => ?_⟩⟩
  obtain ⟨p1, p2, p3, p4⟩ := a8 i hi ht
  obtain ⟨m1, m2, m3, m4⟩ := (c6 i hi).2 ht
  obtain ⟨o1, o2, o3, o4, o5⟩ := l7 i hi ht
  exact ⟨p1.trans m1.symm, ⟨_, o1, p1⟩, p2.trans m2.symm, p3.trans m3.symm, ⟨_, o5, p3⟩, _, o2, p2, (d.2.2.2.2.2.2 i).2.2.1, fun j hj => ⟨(p4 j hj).1, (m4 j hj).1, (o3 j hj).1, (o3 j hj).2.1, (p4 j hj).2.trans (m4 j hj).2.symm, ⟨_, (o3 j hj).2.2, (p4 j hj).2⟩⟩, o4⟩
theorem R_plan_i {q : Nat → Nat → Prop} {σ τ : Mem} {b p : Nat} (F : Fr q σ τ) (hp : p < 10) (h1 : ∀ c k, q c k → c < b ∨ b + 142 ≤ c) (h2 : ∀ c k, q c k → 306 ≤ c → c ≤ 310 → 10 ≤ k) (h3 : ∀ c k, q c k → c = 311 ∨ c = 312 ∨ c = 313 ∨ c = 316 → 40 ≤ k) (h4 : ∀ c k, q c k → c = 314 ∨ c = 315 → 120 ≤ k) (h : R_plan σ (b + 2 + 14 * p) p) : R_plan τ (b + 2 + 14 * p) p := by
  have eI (j : Nat) (hj : j < 14) : gI τ (b + 2 + 14 * p + j) = gI σ (b + 2 + 14 * p + j) := F.eI (fun k z => by have := h1 _ k z; omega)
  have e0 : gI τ (b + 2 + 14 * p) = gI σ (b + 2 + 14 * p) := F.eI (fun k z => by have := h1 _ k z; omega)
  have eJ : gJ τ (b + 2 + 14 * p) = gJ σ (b + 2 + 14 * p) := F.eJ (fun k z => by have := h1 _ k z; omega)
  have f2 (c : Nat) (c1 : 306 ≤ c) (c2 : c ≤ 310) : gI τ c p = gI σ c p ∧ gJ τ c p = gJ σ c p := by
    have := F.2 c p (fun z => by have := h2 c p z c1 c2; omega)
    exact ⟨this.1, this.2.1⟩
  have f3 (c k : Nat) (hc : c = 311 ∨ c = 312 ∨ c = 313 ∨ c = 316) (hk : k < 40) : gI τ c k = gI σ c k := (F.2 c k (fun z => by have := h3 c k z hc; omega)).1
  have f4 (c k : Nat) (hc : c = 314 ∨ c = 315) (hk : k < 120) : gI τ c k = gI σ c k := (F.2 c k (fun z => by have := h4 c k z hc; omega)).1
  obtain ⟨a1, a2, a3, a4, a5, a6, a7, a8, sv, s1, s2, s3⟩ := h
  unfold R_plan
  rw [e0, eJ, (f2 307 (by decide) (by decide)).1, (f2 308 (by decide) (by decide)).1, (f2 309 (by decide) (by decide)).1, (f2 310 (by decide) (by decide)).1, (f2 306 (by decide) (by decide)).2]
  refine ⟨a1, a2, a3, a4, a5, a6, a7, a8, sv, s1, s2, fun i hi => ?_⟩
  obtain ⟨t1, t2⟩ := s3 i hi
  rw [f3 311 _ (by omega) (by omega)]
  refine ⟨t1, fun ht => ?_⟩
  obtain ⟨r1, r2, r3, r4, r5, n, n1, n2, en, n3, n4⟩ := t2 ht
  have g0 : gI τ (b + 2 + 14 * p + 2 + 3 * i) = gI σ (b + 2 + 14 * p + 2 + 3 * i) := F.eI (fun k z => by have := h1 _ k z; omega)
  have g1 : gI τ (b + 2 + 14 * p + 2 + 3 * i + 1) = gI σ (b + 2 + 14 * p + 2 + 3 * i + 1) := F.eI (fun k z => by have := h1 _ k z; omega)
  have g2 : gI τ (b + 2 + 14 * p + 2 + 3 * i + 2) = gI σ (b + 2 + 14 * p + 2 + 3 * i + 2) := F.eI (fun k z => by have := h1 _ k z; omega)
  unfold R_part
  rw [g0, g1, g2, f3 312 _ (by omega) (by omega), f3 313 _ (by omega) (by omega), f3 316 _ (by omega) (by omega)]
  refine ⟨r1, r2, r3, r4, r5, n, n1, n2, en, fun j hj => ?_, n4⟩
  obtain ⟨m1, m2, m3, m4, m5, m6⟩ := n3 j hj
  rw [f4 314 _ (by omega) (by omega), f4 315 _ (by omega) (by omega)]
  exact ⟨m1, m2, m3, m4, m5, m6⟩
def D0 : Nat → NL := fun _ => fresh []
def s8 (b c k : Nat) : Prop := fr8 b c k ∨ (c = 1 ∧ k = 1) ∨ (c = 3 ∧ k = 1) ∨ (c = 0 ∧ k = 8) ∨ c = 161 ∨ c = 158
def f8_ (b c k : Nat) : Prop := fr8 b c k ∨ (c = 1 ∧ k = 1)
/-- the class -/
theorem pl8 {σ : Mem} {b b' L : Nat} {T : Nat → Nat} (hS : ST σ) (hb : isB b') (h08 : gR σ 0 8 = some b) (h31 : gR σ 3 1 = some b') (ht : tp σ L T) : ∃ r a σ1, fX8_plans 0 σ = some (a, σ1) ∧ iterP T L 801 12 0 (0, D0, 0) = some r ∧ ((∃ kd pl, r = .inl (kd, pl) ∧ a = (-1) - nI pl ∧ gI σ1 3 4 = nI kd ∧ gI σ1 1 1 = 0 ∧ Fr (f8_ b') σ σ1) ∨ ∃ st' : PS, r = .inr st' ∧ a = nI st'.1 ∧ gI σ1 3 4 = 0 ∧ gI σ1 1 1 = 0 ∧ gR σ1 0 8 = some b' ∧ gR σ1 3 1 = some b ∧ gI σ1 b' 1 = nI st'.1 ∧ (∀ p, p < st'.1 → HN8 σ1 b' p (st'.2.1 p)) ∧ INV 10 st' ∧ (∀ j, j < 24 → gI σ1 161 j = -1) ∧ (∀ j, j < 4 → gI σ1 158 j = -1) ∧ Fr (s8 b') σ σ1) := by
  have hb2 : b' = 4 ∨ b' = 162 := hb
  have S1 := q_sI hS b' 1 0
  have S2 := q_sI S1 3 4 0
  have S3 := q_sI S2 3 7 0
  have S4 := q_sI S3 3 8 0
  have F4 : Fr (fr8 b') σ (sI (sI (sI (sI σ b' 1 0) 3 4 0) 3 7 0) 3 8 0) := Fr.cI (Fr.cI (Fr.cI (Fr.cI (Fr.refl hS) (by unfold fr8; omega)) (by unfold fr8; omega)) (by unfold fr8; omega)) (by unfold fr8; omega)
  have e34 : gI (sI (sI (sI (sI σ b' 1 0) 3 4 0) 3 7 0) 3 8 0) 3 4 = 0 := by rw [gI_sI2 (by omega), gI_sI2 (by omega), gI_sI1]
  have e37 : gI (sI (sI (sI (sI σ b' 1 0) 3 4 0) 3 7 0) 3 8 0) 3 7 = nI 0 := by rw [gI_sI2 (by omega), gI_sI1]; rfl
  have e38 : gI (sI (sI (sI (sI σ b' 1 0) 3 4 0) 3 7 0) 3 8 0) 3 8 = nI 0 := by rw [gI_sI1]; rfl
  have eb1 : gI (sI (sI (sI (sI σ b' 1 0) 3 4 0) 3 7 0) 3 8 0) b' 1 = nI 0 := by rw [gI_sI2 (by omega), gI_sI2 (by omega), gI_sI2 (by omega), gI_sI1]; rfl
  have hRT : fX4_readText 3 σ = fX4_readText_b27 FU 3 (-1) 0 (sI (sI (sI (sI σ b' 1 0) 3 4 0) 3 7 0) 3 8 0) := by
    unfold fX4_readText
    rw [u_R3_1 hS, bs, h31, v_pIB hS hb, bs, u_pI3 S1, bs, u_pI3 S2, bs, u_pI3 S3, bs]
  generalize sI (sI (sI (sI σ b' 1 0) 3 4 0) 3 7 0) 3 8 0 = σ4 at *
  have t4 : tp σ4 L T := tp_fr F4 (by unfold fr8; omega) (by unfold fr8; omega) ht
  have g31 : gR σ4 3 1 = some b' := (F4.2 3 1 (by unfold fr8; omega)).2.2.trans h31
  obtain ⟨f, τ, r, x1, x2, x3, x4⟩ := rT27 hb 801 12 0 (0, D0, 0) 0 FU σ4 0 0 rfl S4 t4 ⟨g31, eb1, fun p hp => absurd hp (Nat.not_lt_zero p), fun h => absurd h (by decide), fun _ h => absurd h (by decide)⟩ ⟨Nat.zero_le _, fun p hp => absurd hp (Nat.not_lt_zero p), fun h => absurd h (by decide), fun _ h => absurd h (by decide), fun h => absurd h (by decide), fun h => absurd h (by decide)⟩ (Or.inr rfl) e37 e38 rfl (Nat.zero_le _) (Nat.le_refl _) (by decide) (by unfold FU; omega)
  have x1 : fX4_readText_b27 FU 3 (-1) 0 σ4 = some (f, τ) := x1
  have S5 := x3.1
  have F5 : Fr (fr8 b') σ τ := Fr.tr F4 x3
  have S6 := q_sI S5 1 1 0
  have F6 : Fr (f8_ b') σ (sI τ 1 1 0) := Fr.cI (Fr.mono F5 (by intro c k h; exact Or.inl h)) (by unfold f8_; omega)
  unfold fX8_plans
  rw [u_R0_1 hS, bs, u_kT3 hS, bs, hRT, x1, b2s, u_R0_0 S5, bs, u_pI1 S5, bs]
  rcases r with ⟨kd, pl⟩ | st'
  · obtain ⟨rfl, y1, y2, y3, y4⟩ := x4
    rw [if_pos rfl, u_R0_1 S6, bs, u_fI3 S6, bs, gI_sI2 (by omega), y2]
    exact ⟨_, _, _, rfl, x2, Or.inl ⟨kd, pl, rfl, rfl, by rw [gI_sI2 (by omega)]; exact y1, gI_sI1, F6⟩⟩
  · obtain ⟨rfl, y1, y2, y3⟩ := x4
    obtain ⟨z1, z2, z3, -, -⟩ := y2
    have r08 : gR (sI τ 1 1 0) 0 8 = some b := (F6.2 0 8 (by unfold f8_ fr8; omega)).2.2.trans h08
    have r31 : gR (sI τ 1 1 0) 3 1 = some b' := z1
    have S7 : ST (sR (sI τ 1 1 0) 3 1 (some b)) := u_S3_1 S6
    have S8 : ST (sR (sR (sI τ 1 1 0) 3 1 (some b)) 0 8 (some b')) := u_S0_8 S7
    have F8 : Fr (fun c k => (c = 1 ∧ k = 1) ∨ (c = 3 ∧ k = 1) ∨ (c = 0 ∧ k = 8)) τ (sR (sR (sI τ 1 1 0) 3 1 (some b)) 0 8 (some b')) := Fr.tr (Fr.tr (FrsI S5 (by omega)) (FrsR S7 (by omega))) (FrsR S8 (by omega))
    have v31 : gR (sR (sR (sI τ 1 1 0) 3 1 (some b)) 0 8 (some b')) 3 1 = some b := by rw [gR_sR2 (by omega), gR_sR1]
    have v08 : gR (sR (sR (sI τ 1 1 0) 3 1 (some b)) 0 8 (some b')) 0 8 = some b' := gR_sR1
    have v11 : gI (sR (sR (sI τ 1 1 0) 3 1 (some b)) 0 8 (some b')) 1 1 = 0 := by show gI (sI τ 1 1 0) 1 1 = 0; exact gI_sI1
    have hx : fX4_exchange 3 (some b) (sI τ 1 1 0) = some (some b', sR (sI τ 1 1 0) 3 1 (some b)) := by
      unfold fX4_exchange
      rw [u_R3_1 S6, bs, r31, u_P3_1 S6, bs]
    rw [if_neg (by decide), u_R0_1 S6, bs, u_R0_8 S6, bs, r08, u_kT3 S6, bs, hx, b2s, u_P0_8 S7, bs, u_kT0 S8, bs]
    generalize sR (sR (sI τ 1 1 0) 3 1 (some b)) 0 8 (some b') = τ8 at *
    obtain ⟨τ9, w1, w2, w3, -⟩ := fRow FU 0 τ8 S8 (by omega) (by unfold FU; omega)
    have w1 : fX8_forgetRow 0 τ8 = some τ9 := w1
    obtain ⟨υ, w4, w5, w6, -⟩ := fGrp FU 0 τ9 w2.1 (by omega) (by unfold FU; omega)
    have w4 : fX1_forget 154 τ9 = some υ := w4
    have S9 := w2.1
    have Su := w5.1
    have F9 : Fr (fun c k => (c = 1 ∧ k = 1) ∨ (c = 3 ∧ k = 1) ∨ (c = 0 ∧ k = 8) ∨ c = 161 ∨ c = 158) τ υ := Fr.tr (Fr.tr (Fr.mono F8 (by intro c k h; omega)) (Fr.mono w2 (by intro c k h; omega))) (Fr.mono w5 (by intro c k h; omega))
    have F8u : Fr (fun c k => c = 161 ∨ c = 158) τ8 υ := Fr.tr (Fr.mono w2 (by intro c k h; omega)) (Fr.mono w5 (by intro c k h; omega))
    have u08 : gR υ 0 8 = some b' := (F8u.2 0 8 (by omega)).2.2.trans v08
    have ub1 : gI υ b' 1 = nI st'.1 := (F9.2 b' 1 (by omega)).1.trans z2
    rw [w1, bs, u_R0_4 S9, bs, u_kT154 S9, bs, w4, bs, u_R0_8 Su, bs, u08, v_fIB Su hb, bs, ub1]
    refine ⟨_, _, _, rfl, x2, Or.inr ⟨st', rfl, rfl, ?_, (F8u.2 1 1 (by omega)).1.trans v11, u08, (F8u.2 3 1 (by omega)).2.2.trans v31, ub1, fun p hp => ?_, y3, fun j hj => ?_, fun j hj => w6 j (Nat.zero_le _) hj, ?_⟩⟩
    · rw [(F9.2 3 4 (by omega)).1, y1]; exact e34
    · have i1 := y3.1
      exact HN8_fr F9 (by intro c k h1 h2; unfold Pl at h1 h2; omega) (z3 p hp)
    · rw [(w5.2 161 j (by omega)).1]; exact w3 j (Nat.zero_le _) hj
    · exact Fr.trans F5 F9 (by intro c k h; exact Or.inl h) (by intro c k h; exact Or.inr h)
def g9 (c k : Nat) : Prop := fr9 c k ∨ (c = 304 ∧ (k = 0 ∨ k = 2 ∨ k = 3))
def h9_ (c k : Nat) : Prop := (c = 304 ∧ (k ≤ 10 ∨ k = 22 ∨ k = 23 ∨ k = 24 ∨ k = 34 ∨ k = 35)) ∨ (306 ≤ c ∧ c ≤ 316) ∨ c = 327
/-- the reference -/
theorem pl9 {σ : Mem} {L : Nat} {T : Nat → Nat} {r : FR} (hS : ST σ) (hL : L ≤ 840) (ht : tq σ T) (h2 : gI σ 304 2 = nI L) (hit : iterP T L 801 12 0 (0, D0, 0) = some r) : ∃ a σ2, fX9_plans 304 σ = some (a, σ2) ∧ ((∃ kd pl, r = .inl (kd, pl) ∧ a = (-1) - nI pl ∧ gI σ2 304 8 = nI kd ∧ gI σ2 304 2 = 0 ∧ Fr g9 σ σ2) ∨ ∃ st' : PS, r = .inr st' ∧ a = nI st'.1 ∧ gI σ2 304 8 = 0 ∧ gI σ2 304 2 = 0 ∧ gI σ2 304 22 = nI st'.1 ∧ (∀ p, p < st'.1 → HN9 σ2 p (st'.2.1 p)) ∧ gI σ2 304 34 = 0 ∧ gI σ2 304 35 = 0 ∧ (∀ j, j < 4 → gI σ2 327 j = 0) ∧ Fr h9_ σ σ2) := by
  have S1 := q_sI hS 304 0 0
  have S2 := q_sI S1 304 3 (nI L)
  have S3 := q_sI S2 304 2 0
  have S4 := q_sI S3 304 8 0
  have F4 : Fr (fun c k => c = 304 ∧ (k = 0 ∨ k = 2 ∨ k = 3 ∨ k = 8)) σ (sI (sI (sI (sI σ 304 0 0) 304 3 (nI L)) 304 2 0) 304 8 0) := Fr.cI (Fr.cI (Fr.cI (Fr.cI (Fr.refl hS) (by omega)) (by omega)) (by omega)) (by omega)
  have e8 : gI (sI (sI (sI (sI σ 304 0 0) 304 3 (nI L)) 304 2 0) 304 8 0) 304 8 = 0 := gI_sI1
  have e2 : gI (sI (sI (sI (sI σ 304 0 0) 304 3 (nI L)) 304 2 0) 304 8 0) 304 2 = 0 := by rw [gI_sI2 (by omega), gI_sI1]
  have e3 : gI (sI (sI (sI (sI σ 304 0 0) 304 3 (nI L)) 304 2 0) 304 8 0) 304 3 = nI L := by rw [gI_sI2 (by omega), gI_sI2 (by omega), gI_sI1]
  unfold fX9_plans
  rw [u_pI304 hS, bs, u_fI304 S1, bs, gI_sI2 (by omega), h2, u_pI304 S1, bs, u_pI304 S2, bs, u_pI304 S3, bs, u_kT304 S4, bs]
  generalize sI (sI (sI (sI σ 304 0 0) 304 3 (nI L)) 304 2 0) 304 8 0 = σ4 at *
  obtain ⟨f, τ, x1, x2⟩ := rTx9 S4 hL (tq_fr F4 (by omega) ht) e3 hit (by unfold FU; omega)
  rw [x1, b2s]
  rcases x2 with ⟨rfl, st', rfl, y1, y2, y3, y4⟩ | ⟨rfl, kd, pl, rfl, y1, y2, y3⟩
  · have S5 := y4.1
    have i1 := y3.1
    have S6 := q_sI S5 304 22 (nI st'.1)
    rw [if_neg (by decide), u_fI304 S5, bs, y1, u_pI304 S5, bs]
    obtain ⟨υ, c1, c2, c3⟩ := cp47 (P := st'.1) i1 FU 0 (sI τ 304 22 (nI st'.1)) S6 gI_sI1 (Nat.zero_le _) (by unfold FU; omega)
    have c1 : fX9_plans_b47 FU 304 0 (sI τ 304 22 (nI st'.1)) = _ := c1
    have F7 : Fr h9_ σ4 υ := Fr.tr (Fr.cI (Fr.mono y4 (by intro c k h; unfold sr9 at h; unfold h9_; omega)) (by unfold h9_; omega)) (Fr.mono c2 (by intro c k h; unfold cb cq at h; unfold h9_; omega))
    have v22 : gI υ 304 22 = nI st'.1 := (c2.2 304 22 (by unfold cb cq; omega)).1.trans gI_sI1
    have v8 : gI υ 304 8 = 0 := by rw [(c2.2 304 8 (by unfold cb cq; omega)).1, gI_sI2 (by omega), (y4.2 304 8 (by unfold sr9; omega)).1]; exact e8
    have v2 : gI υ 304 2 = 0 := by rw [(c2.2 304 2 (by unfold cb cq; omega)).1, gI_sI2 (by omega), (y4.2 304 2 (by unfold sr9; omega)).1]; exact e2
    have vN : ∀ p, p < st'.1 → HN9 υ p (st'.2.1 p) := fun p hp => HN9_cp (y3.2.1 p hp).2 (HN9_fr (FrsI S5 (p := fun c k => c = 304 ∧ k = 22) (by omega)) (by omega) (by omega) (by omega) (st_3 y3 p hp) (y2 p hp)) (c3 p (Nat.zero_le _) hp)
    have Su := c2.1
    have S7 := q_sI Su 304 34 0
    have S8 := q_sI S7 304 35 0
    obtain ⟨ω, w1, w2, w3, -⟩ := cp284 FU 0 _ S8 (by omega) (by unfold FU; omega)
    have w1 : fX9_plans_b284 FU 304 0 (sI (sI υ 304 34 0) 304 35 0) = _ := w1
    have F9 : Fr (fun c k => (c = 304 ∧ (k = 34 ∨ k = 35)) ∨ c = 327) υ ω := Fr.tr (Fr.cI (Fr.cI (Fr.refl Su) (by omega)) (by omega)) (Fr.mono w2 (by intro c k h; omega))
    rw [c1]
    unfold fX9_plans_b272
    rw [u_pI304 Su, bs, u_pI304 S7, bs, w1, gI_sI2 (by omega), gI_sI2 (by omega), v22]
    refine ⟨_, _, rfl, Or.inr ⟨st', rfl, rfl, (F9.2 304 8 (by omega)).1.trans v8, (F9.2 304 2 (by omega)).1.trans v2, (F9.2 304 22 (by omega)).1.trans v22, fun p hp => HN9_fr F9 (by omega) (by omega) (by omega) (st_3 y3 p hp) (vN p hp), ?_, ?_, fun j hj => w3 j (Nat.zero_le _) hj, ?_⟩⟩
    · rw [(w2.2 304 34 (by omega)).1, gI_sI2 (by omega), gI_sI1]
    · rw [(w2.2 304 35 (by omega)).1, gI_sI1]
    · exact Fr.tr (Fr.tr (Fr.mono F4 (by intro c k h; unfold h9_; omega)) F7) (Fr.mono F9 (by intro c k h; unfold h9_; omega))
  · have S5 := y3.1
    rw [if_pos rfl, u_fI304 S5, bs, y2]
    exact ⟨_, _, rfl, Or.inl ⟨kd, pl, rfl, rfl, y1, (y3.2 304 2 (by unfold fr9; omega)).1.trans e2, Fr.tr (Fr.mono F4 (by intro c k h; unfold g9 fr9; omega)) (Fr.mono y3 (by intro c k h; exact Or.inl h))⟩⟩
theorem op_plans : OpI Rel (fX8_plans 0) (fX9_plans 304) := by
  intro σ h
  obtain ⟨hS, h1, h2, h3, h4, h5, h6, h7, h8, b, b', hbb, k1, k2, P, hP, k3, k4, k5⟩ := h
  have hb' : isB b' := by unfold isB; omega
  obtain ⟨L, T, t1, t2, t3⟩ := tp_of h1
  obtain ⟨r, a, σ1, e1, hit, out⟩ := pl8 hS hb' k1 k2 t1
  have sub : Fr (s8 b') σ σ1 := by
    rcases out with ⟨kd, pl, -, -, -, -, F⟩ | ⟨st', -, -, -, -, -, -, -, -, -, -, -, F⟩
    · exact Fr.mono F (by intro c k h; unfold f8_ fr8 at h; unfold s8 fr8; omega)
    · exact F
  have S1 := sub.1
  obtain ⟨a', σ2, e2, out2⟩ := pl9 (r := r) S1 t1.1 (tq_fr sub (by unfold s8 fr8; omega) t2) ((sub.2 304 2 (by unfold s8 fr8; omega)).1.trans t3) hit
  rcases out with ⟨kd, pl, rfl, rfl, x1, x2, x3⟩ | ⟨st', rfl, rfl, x1, x2, x3, x4, x5, x6, x7, x8, x9, -⟩
  · rcases out2 with ⟨kd', pl', er, rfl, y1, y2, y3⟩ | ⟨st', er, -⟩
    · cases er
      refine ⟨_, σ1, σ2, e1, k9 S1, e2, ?_⟩
      have F : Fr (fun c k => f8_ b' c k ∨ g9 c k) σ σ2 := Fr.trans x3 y3 (by intro c k h; exact Or.inl h) (by intro c k h; exact Or.inr h)
      have S2 := F.1
      refine ⟨S2, ?_, ?_, c_use F (by unfold f8_ fr8 g9 fr9; omega) (by unfold f8_ fr8 g9 fr9; omega) h3, c_chg F (by unfold f8_ fr8 g9 fr9; omega) (by unfold f8_ fr8 g9 fr9; omega) h4, c_span F (by unfold f8_ fr8 g9 fr9; omega) (by unfold f8_ fr8 g9 fr9; omega) (by unfold f8_ fr8 g9 fr9; omega) (by unfold f8_ fr8 g9 fr9; omega) h5, c_row F (by unfold f8_ fr8 g9 fr9; omega) (by unfold f8_ fr8 g9 fr9; omega) (by unfold f8_ fr8 g9 fr9; omega) (by unfold f8_ fr8 g9 fr9; omega) h6, c_grp F (by unfold f8_ fr8 g9 fr9; omega) (by unfold f8_ fr8 g9 fr9; omega) h7, c_out F (by unfold f8_ fr8 g9 fr9; omega) (by unfold f8_ fr8 g9 fr9; omega) (by unfold f8_ fr8 g9 fr9; omega) (by unfold f8_ fr8 g9 fr9; omega) h8, b, b', hbb, (F.2 0 8 (by unfold f8_ fr8 g9 fr9; omega)).2.2.trans k1, (F.2 3 1 (by unfold f8_ fr8 g9 fr9; omega)).2.2.trans k2, P, hP, (F.2 b 1 (by unfold f8_ fr8 g9 fr9; omega)).1.trans k3, (F.2 304 22 (by unfold f8_ fr8 g9 fr9; omega)).1.trans k4, fun p hp => ?_⟩
      · obtain ⟨q1, q2, q3⟩ := h1
        rw [y2, (y3.2 1 1 (by unfold g9 fr9; omega)).1, x2, F.eI (c := 2) (by unfold f8_ fr8 g9 fr9; omega), F.eI (c := 305) (by unfold f8_ fr8 g9 fr9; omega)]
        exact ⟨rfl, ⟨0, by omega, rfl⟩, q3⟩
      · rw [y1, (y3.2 3 4 (by unfold g9 fr9; omega)).1]; exact x1
      · exact R_plan_i F (by omega) (by intro c k h; unfold f8_ fr8 g9 fr9 at h; omega) (by intro c k h; unfold f8_ fr8 g9 fr9 at h; omega) (by intro c k h; unfold f8_ fr8 g9 fr9 at h; omega) (by intro c k h; unfold f8_ fr8 g9 fr9 at h; omega) (k5 p hp)
    · cases er
  · rcases out2 with ⟨kd', pl', er, -⟩ | ⟨st2, er, rfl, y1, y2, y3, y4, y5, y6, y7, y8⟩
    · cases er
    · cases er
      refine ⟨_, σ1, σ2, e1, k9 S1, e2, ?_⟩
      have F : Fr (fun c k => s8 b' c k ∨ h9_ c k) σ σ2 := Fr.trans sub y8 (by intro c k h; exact Or.inl h) (by intro c k h; exact Or.inr h)
      have S2 := F.1
      refine ⟨S2, ?_, ?_, c_use F (by unfold s8 fr8 h9_; omega) (by unfold s8 fr8 h9_; omega) h3, c_chg F (by unfold s8 fr8 h9_; omega) (by unfold s8 fr8 h9_; omega) h4, c_span F (by unfold s8 fr8 h9_; omega) (by unfold s8 fr8 h9_; omega) (by unfold s8 fr8 h9_; omega) (by unfold s8 fr8 h9_; omega) h5, ?_, ?_, c_out F (by unfold s8 fr8 h9_; omega) (by unfold s8 fr8 h9_; omega) (by unfold s8 fr8 h9_; omega) (by unfold s8 fr8 h9_; omega) h8, b', b, by omega, (y8.2 0 8 (by unfold h9_; omega)).2.2.trans x3, (y8.2 3 1 (by unfold h9_; omega)).2.2.trans x4, st'.1, x7.1, (y8.2 b' 1 (by unfold h9_; omega)).1.trans x5, y3, fun p hp => ?_⟩
      · obtain ⟨q1, q2, q3⟩ := h1
        rw [y2, (y8.2 1 1 (by unfold h9_; omega)).1, x2, F.eI (c := 2) (by unfold s8 fr8 h9_; omega), F.eI (c := 305) (by unfold s8 fr8 h9_; omega)]
        exact ⟨rfl, ⟨0, by omega, rfl⟩, q3⟩
      · rw [y1, (y8.2 3 4 (by unfold h9_; omega)).1]; exact x1
      · refine ⟨0, 0, Nat.le_refl _, by omega, y5, y6, fun i hi => ?_⟩
        rw [if_neg (by omega), (y8.2 161 i (by unfold h9_; omega)).1]
        exact x8 i hi
      · intro i hi
        rw [y7 i hi, (y8.2 158 i (by unfold h9_; omega)).1, x9 i hi]
        exact ⟨⟨0, by omega, rfl⟩, (if_pos rfl).symm⟩
      · have i1 := x7.1
        obtain ⟨n1, n2⟩ := x7.2.1 p hp
        exact R_of n1 n2 (HN8_fr y8 (by intro c k h1 h2; unfold Pl at h1 h2; unfold h9_; omega) (x6 p hp)) (y4 p hp)
