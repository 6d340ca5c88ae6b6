/-! the reference's reader: a plan -/
theorem inv_s {A : Nat} {st : PS} (hI : INV A st) (hA : A ≤ 9) : INV 10 (st.1 + 1, st.2.1, st.2.2) := by
  obtain ⟨i1, i2, i3, -⟩ := hI
  obtain ⟨j1, j2, j3⟩ := i3 hA
  refine ⟨by show st.1 + 1 ≤ 10; omega, fun p hp => ?_, fun h => absurd h (by decide), fun _ h => absurd h (by decide), fun h => absurd h (by decide), fun h => absurd h (by decide)⟩
  have hp : p < st.1 + 1 := hp
  show isN (st.2.1 p).1 ∧ okL (st.2.1 p).2
  by_cases e : p = st.1
  · subst e; exact ⟨j2, j3⟩
  · exact i2 p (by omega)
def QOUT (T : Nat → Nat) (L n : Nat) (r : FR) (N : Nat) (τ : Mem) (f : Int32) (υ : Mem) : Prop := (f = 1 ∧ ∃ pos' k st', k < n ∧ iterP T L k 10 pos' (st'.1 + 1, st'.2.1, st'.2.2) = some r ∧ AT υ T L pos' ∧ M9 υ st' false ∧ INV 10 (st'.1 + 1, st'.2.1, st'.2.2) ∧ st'.1 = N ∧ Fr sr9 τ υ) ∨ (f = 0 ∧ FOUT τ υ r)
theorem QOUT_l {T : Nat → Nat} {L n m N : Nat} {r : FR} {τ τ' υ : Mem} {f : Int32} (F : Fr sr9 τ τ') (hm : m ≤ n) (h : QOUT T L m r N τ' f υ) : QOUT T L n r N τ f υ := by
  rcases h with ⟨z0, p', k, s', z1, z2, z3, z4, z5, z6, z7⟩ | ⟨z0, z1⟩
  · exact Or.inl ⟨z0, p', k, s', by omega, z2, z3, z4, z5, z6, Fr.tr F z7⟩
  · exact Or.inr ⟨z0, FOUT_l (Fr.mono F (by intro c k h; exact s_9 h)) z1⟩
theorem pl253 {T : Nat → Nat} {L : Nat} {r : FR} (N : Nat) : ∀ n A pos st τ, (A = 1 ∨ A = 2 ∨ A = 4 ∨ A = 9) → (mayF A (tok T L pos).1 = true → (tok T L pos).1 = 5 ∨ (tok T L pos).1 = 10) → AT τ T L pos → M9 τ st false → INV A st → iterP T L n A pos st = some r → n < N → n < FU → ∃ f υ, fX9_readPlan_b253 N 304 (nI (10 + st.1)) τ = some (f, υ) ∧ QOUT T L n r st.1 τ f υ := by
  induction N with
  | zero => intro n A pos st τ _ _ _ _ _ _ hn; omega
  | succ N ih =>
    intro n A pos st τ hA ho hAT hM hI hit hn hFU
    have hS := hAT.1
    have A9 : A ≤ 9 := by omega
    rw [fX9_readPlan_b253, u_kT304 hS, bs, isK hAT 5 (by decide) 4797 (by decide) (isNb_N (by decide)), b2s]
    by_cases w5 : (tok T L pos).1 = 5
    · obtain ⟨τ1, g1, g2, g3⟩ := AT_go hAT (Or.inl ⟨by omega, by omega⟩)
      have F1 : Fr sr9 τ τ1 := Fr.mono g2 (by intro c k h; exact gq_s h)
      rw [decide_eq_true w5, if_neg (show ¬ bI true = 0 by decide), u_kT304 hS, bs, g1, bs, u_kT304 g2.1, bs]
      obtain ⟨f, τ2, r1, r2⟩ := rPart hA w5 g3 (M9_z (Fr.mono g2 (by intro c k h; exact gq_z h)) hM) hI hit hFU
      rw [r1, b2s]
      rcases r2 with ⟨rfl, p9, k9, st9, z1, z2, z3, z4, z5, z6, z7⟩ | ⟨rfl, hF⟩
      · rw [if_neg (by decide)]
        obtain ⟨f', υ, y1, y2⟩ := ih k9 9 p9 st9 τ2 (by omega) (fun z => by
          unfold mayF at z
          simpa using z) z3 z4 z5 z2 (by omega) (by omega)
        rw [z6] at y1 y2
        exact ⟨f', υ, y1, QOUT_l (Fr.tr F1 z7) (by omega) y2⟩
      · rw [if_pos rfl]
        exact ⟨0, τ2, rfl, Or.inr ⟨rfl, FOUT_l (Fr.mono F1 (by intro c k h; exact s_9 h)) hF⟩⟩
    · rw [decide_eq_false w5, if_pos (show bI false = 0 from rfl)]
      unfold fX9_readPlan_b277
      have hAT' := hAT
      obtain ⟨-, -, -, ⟨-, g2, -, -, -⟩, -, -⟩ := hAT'
      rw [u_fI304 hS, bs, g2]
      obtain ⟨k, rfl, hk⟩ := it_s hit
      by_cases w10 : (tok T L pos).1 = 10
      · have k0 : (tok T L pos).2.1 = 0 := by
          rcases tok_k T L pos with ⟨-, -, z, -⟩ | ⟨-, z, -⟩ | ⟨z, -⟩
          · rcases wd_12 (tok T L pos).2.2.2.2.2 with h | h <;> omega
          · omega
          · exact z
        have k4 : kn (tok T L pos) = 4 := by unfold kn; rw [if_neg (by omega), if_neg (by omega), if_pos w10]
        obtain ⟨τ1, h1, h2, h3⟩ := AT_go hAT (Or.inl ⟨by omega, by omega⟩)
        have m10 : mayF A 10 = true := by rcases hA with rfl | rfl | rfl | rfl <;> decide
        have hs : stepP T L A pos st = .inr (10, (tok T L pos).2.2.2.1, (st.1 + 1, st.2.1, st.2.2)) := by
          unfold stepP
          rw [if_neg (by rw [w10, m10]; decide), if_neg (by omega), if_pos w10]
        rw [hs] at hk
        rw [if_pos (by rw [k4]; rfl), u_kT304 hS, bs, h1, bs]
        rcases hk with hk | ⟨A', p', s', e, hk⟩
        · cases hk
        · cases e
          exact ⟨1, τ1, rfl, Or.inl ⟨rfl, _, k, st, by omega, hk, h3, M9_z (Fr.mono h2 (by intro c k h; exact gq_z h)) hM, inv_s hI A9, rfl, Fr.mono h2 (by intro c k h; exact gq_s h)⟩⟩
      · have hm : mayF A (tok T L pos).1 = false := by
          cases e : mayF A (tok T L pos).1 with
          | false => rfl
          | true => rcases ho e with z | z <;> omega
        rw [sP_b hm] at hk
        have k4 : kn (tok T L pos) ≠ 4 := by
          unfold kn
          by_cases z1 : (tok T L pos).2.1 = 1
          · rw [if_pos z1]; decide
          · rw [if_neg z1]
            by_cases z2 : (tok T L pos).2.1 = 2
            · rw [if_pos z2]; decide
            · rw [if_neg z2, if_neg w10]
              split <;> decide
        obtain ⟨υ, u1, u2, u3, u4⟩ := badK (k := 1) hAT (Or.inl rfl)
        have u1 : (b2 (fX9_bad 304 1 τ) fun t m => if t = 0 ∨ t = 1 then some (t, m) else none) = some ((0 : Int32), υ) := u1
        rw [if_neg (by rw [w_4, nI_eq (by have := kn_1 (T := T) (L := L) (pos := pos); omega) (by decide)]; exact k4), u_kT304 hS, bs, u1]
        rcases hk with hk | ⟨A', p', s', e, hk⟩
        · cases hk; exact ⟨0, υ, rfl, Or.inr ⟨rfl, 1, _, rfl, u3, u4, u2⟩⟩
        · cases e
/-- a field of the plan is changed -/
def pw (r c k : Nat) : Prop := 307 ≤ c ∧ c ≤ 310 ∧ k = r
theorem pw_s {r c k : Nat} (hr : 10 ≤ r) (h : pw r c k) : sr9 c k := by unfold pw at h; unfold sr9; omega
theorem M9_P {τ υ : Mem} {A : Nat} {st : PS} {f : LD → LD} (hI : INV A st) (h : M9 τ st false) (F : Fr (pw (10 + st.1)) τ υ) (hp : (f (cP st)).2.2.2.2 = (cP st).2.2.2.2) (h1 : gI υ 307 (10 + st.1) = nI (f (cP st)).1) (h2 : gI υ 308 (10 + st.1) = nI (f (cP st)).2.1) (h3 : gI υ 309 (10 + st.1) = nI (f (cP st)).2.2.1) (h4 : gI υ 310 (10 + st.1) = nI (f (cP st)).2.2.2.1) : M9 υ (uP st f) false := by
  obtain ⟨a1, a2, a3, a4, a5, a6, a7, a8⟩ := h
  have en : (uP st f).1 = st.1 := rfl
  have el : ((uP st f).2.1 st.1).1 = (st.2.1 st.1).1 := by
    show (if st.1 = st.1 then _ else _ : NL).1 = _
    rw [if_pos rfl]
  unfold M9
  rw [en, el, cP_uP, hp]
  refine ⟨(F.2 304 24 (by unfold pw; omega)).1.trans a1, fun p hp => ?_, (F.2 306 _ (by unfold pw; omega)).2.1.trans a3, h1, h2, h3, h4, fun s hs => ?_⟩
  · have e : (uP st f).2.1 p = st.2.1 p := by
      show (if p = st.1 then _ else _ : NL) = _
      rw [if_neg (by omega)]
    rw [e]
    exact HN9_fr F (by unfold pw; omega) (by unfold pw; omega) (by unfold pw; omega) (st_3 hI p hp) (a2 p hp)
  · obtain ⟨b1, b2'⟩ := a8 s hs
    refine ⟨(F.2 311 _ (by unfold pw; omega)).1.trans b1, fun ht => ?_⟩
    obtain ⟨⟨c1, c2, c3⟩, c4⟩ := b2' ht
    exact ⟨⟨(F.2 312 _ (by unfold pw; omega)).1.trans c1, (F.2 313 _ (by unfold pw; omega)).1.trans c2, fun i hi => ⟨(F.2 314 _ (by unfold pw; omega)).1.trans (c3 i hi).1, (F.2 315 _ (by unfold pw; omega)).1.trans (c3 i hi).2⟩⟩, fun _ => (F.2 316 _ (by unfold pw; omega)).1.trans (c4 (fun z => by cases z.1))⟩
theorem pw_c {r c k : Nat} (h : pw r c k) : 306 ≤ c ∧ c ≤ 316 := by unfold pw at h; omega
theorem pl180 {τ : Mem} {T : Nat → Nat} {L n A pos : Nat} {st : PS} {r : FR} (hA : A = 1 ∨ A = 2) (h2 : A = 1 → (tok T L pos).1 ≠ 2) (hAT : AT τ T L pos) (hM : M9 τ st false) (hI : INV A st) (hit : iterP T L n A pos st = some r) (hFU : n < FU) : ∃ f υ, fX9_readPlan_b180 304 (nI (10 + st.1)) τ = some (f, υ) ∧ QOUT T L n r st.1 τ f υ := by
  have hS := hAT.1
  have A9 : A ≤ 9 := by omega
  obtain ⟨j1, j2, j3⟩ := hI.2.2.1 A9
  unfold fX9_readPlan_b180
  rw [u_kT304 hS, bs, isK hAT 3 (by decide) 131638 (by decide) (isNb_N (by decide)), b2s]
  by_cases w3 : (tok T L pos).1 = 3
  · have m3 : mayF A 3 = true := by rcases hA with rfl | rfl <;> decide
    obtain ⟨τ1, g1, g2, g3⟩ := AT_go hAT (Or.inl ⟨by omega, by omega⟩)
    rw [decide_eq_true w3, if_neg (show ¬ bI true = 0 by decide), u_kT304 hS, bs, g1, bs, u_kT304 g2.1, bs]
    obtain ⟨f, τ2, r1, r2⟩ := stN (τ := τ1) w3 m3 (by decide) (by decide) (by decide) (fun z => by omega) hI A9 hit g3
    have r1 : fX9_readNumber 304 0 23 τ1 = some (f, τ2) := r1
    rw [r1, b2s]
    rcases r2 with ⟨rfl, v, p3, k3, F2, hv, h23, at3, hk3, it3, inv3⟩ | ⟨rfl, hF⟩
    · have S2 := F2.1
      have F02 : Fr gz τ τ2 := Fr.tr (Fr.mono g2 (by intro c k h; exact gq_z h)) F2
      have F3 : Fr (pw (10 + st.1)) τ2 (sI τ2 309 (10 + st.1) (nI v)) := Fr.cI (Fr.refl S2) (by unfold pw; omega)
      have S3 := F3.1
      rw [if_neg (by decide), u_R304_14 S2, bs, u_fI304 S2, bs, h23, u_w309 S2 (by omega), bs, u_kT304 S3, bs]
      rw [put_3] at it3 inv3
      have hM2 := M9_z F02 hM
      have M3 : M9 (sI τ2 309 (10 + st.1) (nI v)) (uP st (fun l => (l.1, l.2.1, v, l.2.2.2))) false := M9_P hI hM2 F3 rfl (by rw [gI_sI2 (by omega)]; exact hM2.2.2.2.1) (by rw [gI_sI2 (by omega)]; exact hM2.2.2.2.2.1) gI_sI1 (by rw [gI_sI2 (by omega)]; exact hM2.2.2.2.2.2.2.1)
      have at3' := AT_fr F3 (by intro c k h; exact pw_c h) at3
      generalize hst3 : uP st (fun l => (l.1, l.2.1, v, l.2.2.2)) = st3 at *
      have e3 : st3.1 = st.1 := by rw [← hst3]; rfl
      have f3 : (cP st3).2.2.1 = v := by rw [← hst3, cP_uP]
      obtain ⟨f4, τ4, k1, k2⟩ := stK (τ := sI τ2 309 (10 + st.1) (nI v)) (A := 3) 4 (by decide) 11450658 (by decide) (by decide) (fun z => by
        unfold mayF at z
        simpa using z) it3 at3'
      rw [k1, b2s]
      have F03 : Fr sr9 τ (sI τ2 309 (10 + st.1) (nI v)) := Fr.tr (Fr.mono F02 (by intro c k h; exact gz_s h)) (Fr.mono F3 (by intro c k h; exact pw_s (by omega) h))
      rcases k2 with ⟨rfl, F4, w4, at4⟩ | ⟨rfl, hF⟩
      · have S4 := F4.1
        have M4 := M9_z (Fr.mono F4 (by intro c k h; exact gq_z h)) M3
        have e309 : gI τ4 309 (10 + st.1) = nI v := by
          have := M4.2.2.2.2.2.1
          rw [e3, f3] at this
          exact this
        have v31 : v < 2 ^ 31 := by have : v ≤ 23 := hv; omega
        rw [if_neg (by decide), u_R304_14 S4, bs, u_a309 S4 (by omega), bs, e309, u_kT304 S4, bs]
        obtain ⟨f5, τ5, r3, r4⟩ := stN (τ := τ4) w4 (show mayF 3 4 = true by decide) (by decide) (by decide) (by decide) (fun z => by omega) inv3 (by decide) it3 at4
        have r3 : fX9_readNumber 304 (nI (cP st3).2.2.1) 23 τ4 = some (f5, τ5) := r3
        rw [f3] at r3
        rw [r3, b2s]
        rcases r4 with ⟨rfl, v4, p4, k4, F5, hv4, h23', at5, hk4, it4, inv4⟩ | ⟨rfl, hF⟩
        · have S5 := F5.1
          have F6 : Fr (pw (10 + st3.1)) τ5 (sI τ5 310 (10 + st3.1) (nI v4)) := Fr.cI (Fr.refl S5) (by unfold pw; omega)
          rw [if_neg (by decide), u_R304_15 S5, bs, u_fI304 S5, bs, h23', ← e3, u_w310 S5 (by omega), bs]
          rw [put_4] at it4 inv4
          have M5 := M9_z F5 M4
          have M6 : M9 (sI τ5 310 (10 + st3.1) (nI v4)) (uP st3 (fun l => (l.1, l.2.1, l.2.2.1, v4, l.2.2.2.2))) false := M9_P inv3 M5 F6 rfl (by rw [gI_sI2 (by omega)]; exact M5.2.2.2.1) (by rw [gI_sI2 (by omega)]; exact M5.2.2.2.2.1) (by rw [gI_sI2 (by omega)]; exact M5.2.2.2.2.2.1) gI_sI1
          obtain ⟨f', υ, y1, y2⟩ := pl253 FU k4 4 p4 (uP st3 (fun l => (l.1, l.2.1, l.2.2.1, v4, l.2.2.2.2))) _ (by omega) (fun z => by
            unfold mayF at z
            simpa using z) (AT_fr F6 (by intro c k h; exact pw_c h) at5) M6 inv4 it4 (by omega) (by omega)
          refine ⟨f', υ, y1, QOUT_l (Fr.tr F03 (Fr.tr (Fr.tr (Fr.mono F4 (by intro c k h; exact gq_s h)) (Fr.mono F5 (by intro c k h; exact gz_s h))) (Fr.mono F6 (by intro c k h; exact pw_s (by omega) h)))) (by omega) y2⟩
        · rw [if_pos rfl]
          exact ⟨0, τ5, rfl, Or.inr ⟨rfl, FOUT_l (Fr.tr (Fr.mono F03 (by intro c k h; exact s_9 h)) (Fr.mono F4 (by intro c k h; exact gq_9 h))) hF⟩⟩
      · rw [if_pos rfl]
        exact ⟨0, τ4, rfl, Or.inr ⟨rfl, FOUT_l (Fr.mono F03 (by intro c k h; exact s_9 h)) hF⟩⟩
    · rw [if_pos rfl]
      exact ⟨0, τ2, rfl, Or.inr ⟨rfl, FOUT_l (Fr.mono g2 (by intro c k h; exact gq_9 h)) hF⟩⟩
  · rw [decide_eq_false w3, if_pos (show bI false = 0 from rfl)]
    exact pl253 FU n A pos st τ (by omega) (fun z => by
      rcases hA with rfl | rfl
      · have h2 := h2 rfl
        unfold mayF at z
        simp [w3, h2] at z
        exact z
      · unfold mayF at z
        simp [w3] at z
        exact z) hAT hM hI hit hFU hFU
theorem has0 {r : Nat} (hr : r < 20) (N : Nat) : ∀ s σ, ST σ → s ≤ 4 → 4 < s + N → ∃ υ, fX9_readPlan_b86 N 304 (nI r) (nI s) σ = fX9_readPlan_b108 304 (nI r) υ ∧ Fr (fun c k => c = 311 ∧ 4 * r ≤ k ∧ k < 4 * r + 4) σ υ ∧ (∀ t, s ≤ t → t < 4 → gI υ 311 (4 * r + t) = 0) ∧ ∀ t, t < s → gI υ 311 (4 * r + t) = gI σ 311 (4 * r + t) := by
  induction N with
  | zero => intro s σ _ _ hn; omega
  | succ N ih =>
    intro s σ hS hs hn
    rw [fX9_readPlan_b86]
    by_cases c : s < 4
    · obtain ⟨υ, u1, u2, u3, u4⟩ := ih (s + 1) _ (q_sI hS 311 (4 * r + s) (vp_nar .boolean 0)) (by omega) (by omega)
      refine ⟨υ, ?_, Fr.tr (Fr.cI (Fr.refl hS) (by omega)) u2, fun t t1 t2 => ?_, fun t ht => ?_⟩
      · rw [w_4, if_neg (nI_ge c (by decide)), u_R304_16 hS, bs, pk_mul, nI_add, u_w311 hS (by omega), bs, bd_, nI_1]
        exact u1
      · by_cases e : t = s
        · subst e; rw [u4 t (by omega), gI_sI1]; decide
        · exact u3 t (by omega) t2
      · rw [u4 t (by omega), gI_sI2 (by omega)]
    · have : s = 4 := by omega
      subst this
      rw [if_pos (by decide)]
      exact ⟨σ, rfl, Fr.refl hS, fun t t1 t2 => by omega, fun _ _ => rfl⟩
theorem dup21 {τ : Mem} {T : Nat → Nat} {L q : Nat} {st : PS} (hAT : AT τ T L q) (hn : st.1 < 10) (hD : ∀ p, p < st.1 → isN (st.2.1 p).1 ∧ HN9 τ (10 + p) (st.2.1 p)) (k1 : (tok T L q).2.1 = 1) (N : Nat) : ∀ p, p ≤ st.1 → st.1 < p + N → (hasN st.2.1 (tok T L q).2.2.2.2.2 p = false) → (fX9_readPlan_b21 N 304 (nI (10 + st.1)) (nI (10 + p)) τ = fX9_readPlan_b52 304 (nI (10 + st.1)) τ ∧ hasN st.2.1 (tok T L q).2.2.2.2.2 st.1 = false) ∨ (fX9_readPlan_b21 N 304 (nI (10 + st.1)) (nI (10 + p)) τ = (b2 (fX9_bad 304 3 τ) fun t8 m9 => if t8 = 0 ∨ t8 = 1 then some (t8, m9) else none) ∧ hasN st.2.1 (tok T L q).2.2.2.2.2 st.1 = true) := by
  have hS := hAT.1
  have hAT' := hAT
  obtain ⟨-, -, -, ⟨-, -, -, g4, -⟩, -, -⟩ := hAT'
  have kl : isN (tok T L q).2.2.2.2.2 := by
    rcases tok_k T L q with ⟨-, z, -⟩ | ⟨z, -⟩ | ⟨z, -⟩
    · exact z
    · omega
    · omega
  induction N with
  | zero => intro p _ hn; omega
  | succ N ih =>
    intro p h1 h2 hp
    rw [fX9_readPlan_b21]
    by_cases c : p < st.1
    · obtain ⟨d1, d2⟩ := hD p c
      rw [if_neg (nI_ge (by omega) (by omega)), u_R304_11 hS, bs, u_a306 hS (by omega), bs, u_fJ304 hS, bs, d2.1, g4 k1]
      by_cases c2 : (st.2.1 p).1 = (tok T L q).2.2.2.2.2
      · rw [if_pos (by rw [c2]), u_kT304 hS, bs]
        exact Or.inr ⟨rfl, (hasN_i st.1).mpr ⟨p, c, c2⟩⟩
      · rw [if_neg (fun z => c2 ((e27_i d1 kl).mp z)), bd_, nI_1, Nat.add_assoc]
        refine ih (p + 1) (by omega) (by omega) ?_
        show (hasN st.2.1 (tok T L q).2.2.2.2.2 p || decide ((st.2.1 p).1 = (tok T L q).2.2.2.2.2)) = false
        rw [hp, decide_eq_false c2]
        rfl
    · have : p = st.1 := by omega
      subst this
      rw [if_pos (nI_le (Nat.le_refl _) (by omega))]
      exact Or.inl ⟨rfl, hp⟩
/-- a plan, behind its word -/
theorem rPlan {τ : Mem} {T : Nat → Nat} {L n A pos : Nat} {st : PS} {r : FR} (hA : A = 10 ∨ A = 12) (hw : (tok T L pos).1 = 0) (hn10 : st.1 < 10) (hAT : AT τ T L (tok T L pos).2.2.2.1) (h24 : gI τ 304 24 = nI st.1) (hD : ∀ p, p < st.1 → HN9 τ (10 + p) (st.2.1 p)) (hI : INV A st) (hit : iterP T L n A pos st = some r) (hFU : n < FU) : ∃ f υ, fX9_readPlan 304 (nI st.1) τ = some (f, υ) ∧ QOUT T L n r st.1 τ f υ := by
  have hS := hAT.1
  have m0 : mayF A 0 = true := by rcases hA with rfl | rfl <;> decide
  have hs : stepP T L A pos st = namS (tok T L (tok T L pos).2.2.2.1) st := by
    unfold stepP
    rw [if_neg (by rw [hw, m0]; decide), if_neg (by omega), if_neg (by omega), if_pos hw, if_neg (by omega)]
  obtain ⟨k, rfl, hk⟩ := it_s hit
  rw [hs] at hk
  generalize (tok T L pos).2.2.2.1 = q at *
  unfold fX9_readPlan
  rw [w_10, nI_add, bd_, u_kT304 hS, bs, isF hAT, b2s]
  by_cases c : (tok T L q).2.1 = 1 ∧ (tok T L q).1 = 12
  · obtain ⟨k1, k12⟩ := c
    have kl : isN (tok T L q).2.2.2.2.2 := by
      rcases tok_k T L q with ⟨-, z, -⟩ | ⟨z, -⟩ | ⟨z, -⟩
      · exact z
      · omega
      · omega
    unfold namS at hk
    rw [if_pos ⟨k1, k12⟩] at hk
    rw [decide_eq_true ⟨k1, k12⟩, if_neg (show ¬ bI true = 0 by decide)]
    rcases dup21 hAT hn10 (fun p hp => ⟨(hI.2.1 p hp).1, hD p hp⟩) k1 FU 0 (by omega) (by unfold FU; omega) rfl with ⟨e1, e2⟩ | ⟨e1, e2⟩
    · rw [if_neg (by rw [e2]; decide)] at hk
      rcases hk with hk | ⟨A', p', s', e, hk⟩
      · cases hk
      cases e
      generalize hst0 : (st.1, (fun i => if i = st.1 then fresh (tok T L q).2.2.2.2.2 else st.2.1 i), st.2.2) = st0 at hk
      have n0 : st0.1 = st.1 := by rw [← hst0]
      have d0 : st0.2.1 st.1 = fresh (tok T L q).2.2.2.2.2 := by rw [← hst0]; exact if_pos rfl
      have dp : ∀ p, p < st.1 → st0.2.1 p = st.2.1 p := fun p hp => by rw [← hst0]; exact if_neg (by omega)
      have inv0 : INV 0 st0 := by
        refine ⟨by omega, fun p hp => ?_, fun _ => ⟨by omega, ?_, ?_⟩, fun h => absurd h (by decide), fun h => absurd h (by decide), fun _ => ?_⟩
        · rw [dp p (by omega)]; exact hI.2.1 p (by omega)
        · rw [n0, d0]; exact kl
        · unfold cP; rw [n0, d0]; exact fr_ok _
        · unfold cP; rw [n0, d0]; rfl
      have e1 : fX9_readPlan_b21 FU 304 (nI (10 + st.1)) 10 τ = fX9_readPlan_b52 304 (nI (10 + st.1)) τ := e1
      rw [w_10] at e1
      rw [e1]
      unfold fX9_readPlan_b52
      have hAT' := hAT
      obtain ⟨-, -, -, ⟨-, -, -, g4, -⟩, -, -⟩ := hAT'
      generalize hr : 10 + st.1 = rr at *
      have r1 : 10 ≤ rr := by omega
      have r2 : rr < 20 := by omega
      have s1 := q_sJ hS 306 rr (lN (enc 27 96 (tok T L q).2.2.2.2.2 0))
      have s2 := q_sI s1 308 rr 1
      have s3 := q_sI s2 309 rr 0
      have s4 := q_sI s3 310 rr 23
      rw [u_R304_11 hS, bs, u_fJ304 hS, bs, g4 k1, u_w306 hS r2, bs, u_R304_13 s1, bs, u_w308 s1 r2, bs, u_R304_14 s2, bs, u_w309 s2 r2, bs, u_R304_15 s3, bs, u_w310 s3 r2, bs]
      obtain ⟨τ5, a1, a2, a3, -⟩ := has0 r2 FU 0 _ s4 (by omega) (by unfold FU; omega)
      have F5 : Fr (fun c k => (306 ≤ c ∧ c ≤ 310 ∧ k = rr) ∨ (c = 311 ∧ 4 * rr ≤ k ∧ k < 4 * rr + 4)) τ τ5 := Fr.tr (Fr.cI (Fr.cI (Fr.cI (Fr.cJ (Fr.refl hS) (by omega)) (by omega)) (by omega)) (by omega)) (Fr.mono a2 (by intro c k h; omega))
      have a1 : fX9_readPlan_b86 FU 304 (nI rr) 0 _ = _ := a1
      rw [a1]
      unfold fX9_readPlan_b108
      have at5 := AT_fr F5 (by intro c k h; omega) hAT
      have S5 := at5.1
      obtain ⟨τ6, g1, g2, g3⟩ := AT_go at5 (Or.inr (by omega))
      have S6 := g2.1
      rw [u_kT304 S5, bs, g1, bs, u_kT304 S6, bs]
      -- the fields
      have F06 : Fr (fun c k => ((306 ≤ c ∧ c ≤ 310 ∧ k = rr) ∨ (c = 311 ∧ 4 * rr ≤ k ∧ k < 4 * rr + 4)) ∨ gq c k) τ τ6 := Fr.trans F5 g2 (by intro c k h; exact Or.inl h) (by intro c k h; exact Or.inr h)
      have F06s : Fr sr9 τ τ6 := Fr.mono F06 (by intro c k h; rcases h with h | h; · unfold sr9; omega
                                                 · exact gq_s h)
      have v306 : gJ τ6 306 rr = lN (enc 27 96 (tok T L q).2.2.2.2.2 0) := by
        rw [(g2.2 306 rr (by unfold gq; omega)).2.1, (a2.2 306 rr (by omega)).2.1, rdJI, rdJI, rdJI, gJ_sJ1]
      have v308 : gI τ6 308 rr = nI 1 := by
        rw [(g2.2 308 rr (by unfold gq; omega)).1, (a2.2 308 rr (by omega)).1, gI_sI2 (by omega), gI_sI2 (by omega), gI_sI1]; rfl
      have v309 : gI τ6 309 rr = nI 0 := by
        rw [(g2.2 309 rr (by unfold gq; omega)).1, (a2.2 309 rr (by omega)).1, gI_sI2 (by omega), gI_sI1]; rfl
      have v310 : gI τ6 310 rr = nI 23 := by
        rw [(g2.2 310 rr (by unfold gq; omega)).1, (a2.2 310 rr (by omega)).1, gI_sI1]; rfl
      have v311 (s : Nat) (hs : s < 4) : gI τ6 311 (4 * rr + s) = 0 := by
        rw [(g2.2 311 _ (by unfold gq; omega)).1]; exact a3 s (Nat.zero_le _) hs
      -- fee
      obtain ⟨f7, τ7, k1', k2⟩ := stK (τ := τ6) (A := 0) 1 (by decide) 4514 (by decide) (by decide) (fun z => by
        unfold mayF at z
        simpa using z) hk g3
      rw [k1', b2s]
      rcases k2 with ⟨rfl, F7, w1, at7⟩ | ⟨rfl, hF⟩
      · rw [if_neg (by decide), u_kT304 F7.1, bs]
        obtain ⟨f8, τ8, r3, r4⟩ := stN (τ := τ7) w1 (show mayF 0 1 = true by decide) (by decide) (by decide) (by decide) (fun z => by omega) inv0 (by decide) hk at7
        have r3 : fX9_readNumber 304 0 999999 τ7 = some (f8, τ8) := r3
        rw [r3, b2s]
        rcases r4 with ⟨rfl, v, p1, kk, F8, hv, h23, at8, hk8, it8, inv8⟩ | ⟨rfl, hF⟩
        · have S8 := F8.1
          have F68 : Fr gz τ6 τ8 := Fr.tr (Fr.mono F7 (by intro c k h; exact gq_z h)) F8
          have F9 : Fr (pw rr) τ8 (sI τ8 307 rr (nI v)) := Fr.cI (Fr.refl S8) (by unfold pw; omega)
          have S9 := F9.1
          rw [if_neg (by decide), u_R304_12 S8, bs, u_fI304 S8, bs, h23, u_w307 S8 r2, bs, u_kT304 S9, bs]
          rw [put_1] at it8 inv8
          have hr0 : 10 + st0.1 = rr := by rw [n0]; exact hr
          have M9_ : M9 (sI τ8 307 rr (nI v)) (uP st0 (fun l => (v, l.2))) false := by
            have ec : cP (uP st0 (fun l => (v, l.2))) = (v, (cP st0).2) := cP_uP st0 _
            have ecp : cP st0 = (fresh (tok T L q).2.2.2.2.2).2 := by unfold cP; rw [n0, d0]
            have el : ((uP st0 (fun l => (v, l.2))).2.1 st0.1).1 = (tok T L q).2.2.2.2.2 := by
              show (if st0.1 = st0.1 then _ else _ : NL).1 = _
              rw [if_pos rfl, n0, d0]
              rfl
            unfold M9
            rw [ec, ecp, show (uP st0 (fun l => (v, l.2))).1 = st0.1 from rfl, el, hr0]
            refine ⟨?_, fun p hp => ?_, ?_, gI_sI1, ?_, ?_, ?_, fun s hs => ⟨?_, fun ht => absurd ht (by show ¬ (0 : Nat).testBit s = true; simp)⟩⟩
            · rw [gI_sI2 (by omega), (F68.2 304 24 (by unfold gz; omega)).1, (F06.2 304 24 (by unfold gq; omega)).1, h24, n0]
            · have e : (uP st0 (fun l => (v, l.2))).2.1 p = st.2.1 p := by
                show (if p = st0.1 then _ else _ : NL) = _
                rw [if_neg (by omega)]
                exact dp p (by omega)
              rw [e]
              have h0 := hD p (by omega)
              have h1 : HN9 τ6 (10 + p) (st.2.1 p) := HN9_fr F06 (by unfold gq; omega) (by unfold gq; omega) (by unfold gq; omega) (st_3 hI p (by omega)) h0
              have h2 : HN9 τ8 (10 + p) (st.2.1 p) := HN9_fr F68 (by unfold gz; omega) (by unfold gz; omega) (by unfold gz; omega) (st_3 hI p (by omega)) h1
              exact HN9_fr F9 (by unfold pw; omega) (by unfold pw; omega) (by unfold pw; omega) (st_3 hI p (by omega)) h2
            · rw [rdJI, (F68.2 306 rr (by unfold gz; omega)).2.1]; exact v306
            · rw [gI_sI2 (by omega), (F68.2 308 rr (by unfold gz; omega)).1]; exact v308
            · rw [gI_sI2 (by omega), (F68.2 309 rr (by unfold gz; omega)).1]; exact v309
            · rw [gI_sI2 (by omega), (F68.2 310 rr (by unfold gz; omega)).1]; exact v310
            · rw [gI_sI2 (by omega), (F68.2 311 _ (by unfold gz; omega)).1, v311 s hs]
              show (0 : Int32) = if (0 : Nat).testBit s then 1 else 0
              simp
          have at9 := AT_fr F9 (by intro c k h; exact pw_c h) at8
          have F09 : Fr sr9 τ (sI τ8 307 rr (nI v)) := Fr.tr (Fr.tr F06s (Fr.mono F68 (by intro c k h; exact gz_s h))) (Fr.mono F9 (by intro c k h; exact pw_s r1 h))
          generalize sI τ8 307 rr (nI v) = τ9 at *
          generalize hst1 : uP st0 (fun l => (v, l.2)) = st1 at *
          have n1 : st1.1 = st.1 := by rw [← hst1]; exact n0
          rw [isK at9 2 (by decide) 397804 (by decide) (isNb_N (by decide)), b2s]
          by_cases w2 : (tok T L p1).1 = 2
          · obtain ⟨τa, b1, b2', b3⟩ := AT_go at9 (Or.inl ⟨by omega, by omega⟩)
            rw [decide_eq_true w2, if_neg (show ¬ bI true = 0 by decide), u_kT304 S9, bs, b1, bs, u_kT304 b2'.1, bs]
            obtain ⟨fb, τb, r5, r6⟩ := stN (τ := τa) w2 (show mayF 1 2 = true by decide) (by decide) (by decide) (by decide) (fun z => by omega) inv8 (by decide) it8 b3
            have r5 : fX9_readNumber 304 1 24 τa = some (fb, τb) := r5
            rw [r5, b2s]
            rcases r6 with ⟨rfl, v2, p2, kc, Fb, hv2, h23b, atb, hkb, itb, invb⟩ | ⟨rfl, hF⟩
            · have Sb := Fb.1
              have F9b : Fr gz τ9 τb := Fr.tr (Fr.mono b2' (by intro c k h; exact gq_z h)) Fb
              have Fc : Fr (pw (10 + st1.1)) τb (sI τb 308 rr (nI v2)) := Fr.cI (Fr.refl Sb) (by unfold pw; omega)
              rw [if_neg (by decide), u_R304_13 Sb, bs, u_fI304 Sb, bs, h23b, u_w308 Sb r2, bs]
              rw [put_2] at itb invb
              have Mb := M9_z F9b M9_
              have hr1 : 10 + st1.1 = rr := by omega
              have Mc : M9 (sI τb 308 rr (nI v2)) (uP st1 (fun l => (l.1, v2, l.2.2))) false := M9_P inv8 Mb Fc rfl (by rw [gI_sI2 (by omega)]; exact Mb.2.2.2.1) (by rw [hr1, gI_sI1]) (by rw [gI_sI2 (by omega)]; exact Mb.2.2.2.2.2.1) (by rw [gI_sI2 (by omega)]; exact Mb.2.2.2.2.2.2.1)
              obtain ⟨f', υ, y1, y2⟩ := pl180 (A := 2) (Or.inr rfl) (fun z => by omega) (AT_fr Fc (by intro c k h; exact pw_c h) atb) Mc invb itb (by omega)
              have e' : (uP st1 (fun l => (l.1, v2, l.2.2))).1 = st.1 := n1
              rw [e', hr] at y1
              rw [e'] at y2
              exact ⟨f', υ, y1, QOUT_l (Fr.tr F09 (Fr.tr (Fr.mono F9b (by intro c k h; exact gz_s h)) (Fr.mono Fc (by intro c k h; exact pw_s (by omega) h)))) (by omega) y2⟩
            · rw [if_pos rfl]
              exact ⟨0, τb, rfl, Or.inr ⟨rfl, FOUT_l (Fr.tr (Fr.mono F09 (by intro c k h; exact s_9 h)) (Fr.mono b2' (by intro c k h; exact gq_9 h))) hF⟩⟩
          · rw [decide_eq_false w2, if_pos (show bI false = 0 from rfl)]
            obtain ⟨f', υ, y1, y2⟩ := pl180 (A := 1) (Or.inl rfl) (fun _ => w2) at9 M9_ inv8 it8 (by omega)
            rw [n1, hr] at y1
            rw [n1] at y2
            exact ⟨f', υ, y1, QOUT_l F09 (by omega) y2⟩
        · rw [if_pos rfl]
          exact ⟨0, τ8, rfl, Or.inr ⟨rfl, FOUT_l (Fr.tr (Fr.mono F06s (by intro c k h; exact s_9 h)) (Fr.mono F7 (by intro c k h; exact gq_9 h))) hF⟩⟩
      · rw [if_pos rfl]
        exact ⟨0, τ7, rfl, Or.inr ⟨rfl, FOUT_l (Fr.mono F06s (by intro c k h; exact s_9 h)) hF⟩⟩
    · rw [if_pos e2] at hk
      have e1 : fX9_readPlan_b21 FU 304 (nI (10 + st.1)) 10 τ = _ := e1
      rw [w_10] at e1
      have k2 : kn (tok T L q) = 2 := by unfold kn; rw [if_pos k1]
      obtain ⟨υ, u1, u2, u3, u4⟩ := badK (k := 3) hAT (Or.inr (by rw [k2]; decide))
      have u1 : (b2 (fX9_bad 304 3 τ) fun t m => if t = 0 ∨ t = 1 then some (t, m) else none) = some ((0 : Int32), υ) := u1
      rw [e1, u1]
      rcases hk with hk | ⟨A', p', s', e, hk⟩
      · cases hk; exact ⟨0, υ, rfl, Or.inr ⟨rfl, 3, _, rfl, u3, u4, u2⟩⟩
      · cases e
  · unfold namS at hk
    rw [if_neg c] at hk
    obtain ⟨υ, u1, u2, u3, u4⟩ := badK (k := 1) hAT (Or.inl rfl)
    have u1 : (b2 (fX9_bad 304 1 τ) fun t m => if t = 0 ∨ t = 1 then some (t, m) else none) = some ((0 : Int32), υ) := u1
    rw [decide_eq_false c, if_pos (show bI false = 0 from rfl), u_kT304 hS, bs, u1]
    rcases hk with hk | ⟨A', p', s', e, hk⟩
    · cases hk; exact ⟨0, υ, rfl, Or.inr ⟨rfl, 1, _, rfl, u3, u4, u2⟩⟩
    · cases e
