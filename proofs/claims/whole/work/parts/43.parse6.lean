/-! the reference's reader: a part, a plan -/
theorem M9_5 {τ υ : Mem} {A v : Nat} {st : PS} (hI : INV A st) (hA9 : A ≤ 9) (v4 : v < 4) (h : M9 τ st false) (F : Fr (pq (4 * (10 + st.1) + v)) τ υ) (h1 : gI υ 311 (4 * (10 + st.1) + v) = 1) (h2 : gI υ 312 (4 * (10 + st.1) + v) = nI 0) (h3 : gI υ 313 (4 * (10 + st.1) + v) = nI 0) : M9 υ (put_ 5 v st) true := by
  obtain ⟨a1, a2, a3, a4, a5, a6, a7, a8⟩ := h
  obtain ⟨j1, -, j3⟩ := hI.2.2.1 hA9
  have o2 := (or_bit _ j3.2.2.2.2.2.1 v v4).2
  rw [put_5]
  have ec : cP ((uP st (f5 v)).1, (uP st (f5 v)).2.1, v) = f5 v (cP st) := cP_uP st (f5 v)
  have en : ((uP st (f5 v)).2.1 st.1).1 = (st.2.1 st.1).1 := by
    show (if st.1 = st.1 then _ else _ : NL).1 = _
    rw [if_pos rfl]
  unfold M9
  rw [ec]
  show gI υ 304 24 = nI st.1 ∧ (∀ p, p < st.1 → HN9 υ (10 + p) ((uP st (f5 v)).2.1 p)) ∧ gJ υ 306 (10 + st.1) = lN (enc 27 96 ((uP st (f5 v)).2.1 st.1).1 0) ∧ gI υ 307 (10 + st.1) = nI (cP st).1 ∧ gI υ 308 (10 + st.1) = nI (cP st).2.1 ∧ gI υ 309 (10 + st.1) = nI (cP st).2.2.1 ∧ gI υ 310 (10 + st.1) = nI (cP st).2.2.2.1 ∧ ∀ s, s < 4 → gI υ 311 (4 * (10 + st.1) + s) = (if ((cP st).2.2.2.2.1 ||| 2 ^ v).testBit s then 1 else 0) ∧ (((cP st).2.2.2.2.1 ||| 2 ^ v).testBit s = true → HMx υ (4 * (10 + st.1) + s) ((f5 v (cP st)).2.2.2.2.2 s) ∧ (¬ (true = true ∧ s = v) → gI υ 316 (4 * (10 + st.1) + s) = nI ((f5 v (cP st)).2.2.2.2.2 s).2.2.2.2))
  rw [en]
  refine ⟨(F.2 304 24 (by unfold pq; omega)).1.trans a1, fun p hp => ?_, (F.2 306 _ (by unfold pq; omega)).2.1.trans a3, (F.2 307 _ (by unfold pq; omega)).1.trans a4, (F.2 308 _ (by unfold pq; omega)).1.trans a5, (F.2 309 _ (by unfold pq; omega)).1.trans a6, (F.2 310 _ (by unfold pq; omega)).1.trans a7, fun s hs => ?_⟩
  · have e : (uP st (f5 v)).2.1 p = st.2.1 p := by
      show (if p = st.1 then _ else _ : NL) = _
      rw [if_neg (by omega)]
    rw [e]
    exact HN9_fr F (by unfold pq; omega) (by unfold pq; omega) (by unfold pq; omega) (st_3 hI p hp) (a2 p hp)
  · rw [o2 s hs]
    have ef : (f5 v (cP st)).2.2.2.2.2 s = if s = v then (0, 0, ((cP st).2.2.2.2.2 s).2.2.1, ((cP st).2.2.2.2.2 s).2.2.2.1, 0) else (cP st).2.2.2.2.2 s := rfl
    rw [ef]
    obtain ⟨b1, b2'⟩ := a8 s hs
    by_cases c : s = v
    · subst c
      rw [if_pos rfl]
      refine ⟨by rw [h1]; simp, fun _ => ⟨⟨h2, h3, fun i hi => absurd hi (Nat.not_lt_zero i)⟩, fun z => absurd ⟨rfl, rfl⟩ z⟩⟩
    · rw [if_neg c]
      refine ⟨by rw [(F.2 311 _ (by unfold pq; omega)).1, b1]; simp [c], fun ht => ?_⟩
      have ht : (cP st).2.2.2.2.1.testBit s = true := by simpa [c] using ht
      obtain ⟨⟨c1, c2, c3⟩, c4⟩ := b2' ht
      have h3 := (j3.2.2.2.2.2.2 s hs ht).2.1
      exact ⟨⟨(F.2 312 _ (by unfold pq; omega)).1.trans c1, (F.2 313 _ (by unfold pq; omega)).1.trans c2, fun i hi => ⟨(F.2 314 _ (by unfold pq; omega)).1.trans (c3 i hi).1, (F.2 315 _ (by unfold pq; omega)).1.trans (c3 i hi).2⟩⟩, fun _ => (F.2 316 _ (by unfold pq; omega)).1.trans (c4 (fun z => by cases z.1))⟩
theorem rPart {τ : Mem} {T : Nat → Nat} {L n A pos : Nat} {st : PS} {r : FR} (hA : A = 1 ∨ A = 2 ∨ A = 4 ∨ A = 9) (hw : (tok T L pos).1 = 5) (hAT : AT τ T L (tok T L pos).2.2.2.1) (hM : M9 τ st false) (hI : INV A st) (hit : iterP T L n A pos st = some r) (hn : n < FU) : ∃ f υ, fX9_readPart 304 (nI (10 + st.1)) τ = some (f, υ) ∧ POUT T L n r st.1 τ f υ := by
  have hS := hAT.1
  have A9 : A ≤ 9 := by omega
  obtain ⟨j1, j2, j3⟩ := hI.2.2.1 A9
  have m5 : mayF A 5 = true := by rcases hA with rfl | rfl | rfl | rfl <;> decide
  have hs := sP_n (T := T) (L := L) (A := A) (pos := pos) (st := st) (by rw [hw]; exact m5) (by omega) (by omega) (fun z => by omega)
  rw [hw] at hs
  obtain ⟨k, rfl, hk⟩ := it_s hit
  rw [hs] at hk
  generalize hq : (tok T L pos).2.2.2.1 = q at *
  have hAT' := hAT
  obtain ⟨-, -, -, ⟨-, g2, -, -, g5⟩, -, -⟩ := hAT'
  -- behind the check of has
  have b38 (hno : (tok T L q).2.1 = 2 → (tok T L q).2.2.2.2.1 < 4 → (cP st).2.2.2.2.1.testBit (tok T L q).2.2.2.2.1 = false) : ∃ f υ, fX9_readPart_b38 304 (nI (10 + st.1)) τ = some (f, υ) ∧ POUT T L (k + 1) r st.1 τ f υ := by
    unfold fX9_readPart_b38
    obtain ⟨f, τ1, r1, r2⟩ := rdN (lo := 0) (hi := 3) hAT (by decide) (by decide)
    have r1 : fX9_readNumber 304 0 3 τ = some (f, τ1) := r1
    rw [u_kT304 hS, bs, r1, b2s]
    unfold numS at hk
    rcases r2 with ⟨rfl, F1, k2, l1, l2, at1, h23⟩ | ⟨rfl, F1, g9, e⟩
    · have v4 : (tok T L q).2.2.2.2.1 < 4 := by omega
      have hb := hno k2 v4
      rw [if_pos k2, if_pos ⟨Nat.zero_le _, by rw [hi_5]; omega⟩, if_neg (fun z => by rw [hb] at z; cases z.2)] at hk
      generalize hv : (tok T L q).2.2.2.2.1 = v at *
      generalize (tok T L q).2.2.2.1 = p5 at *
      have S1 := F1.1
      generalize hkk : 4 * (10 + st.1) + v = kk
      have kk1 : 40 ≤ kk := by omega
      have kk2 : kk < 80 := by omega
      have s1 := q_sI S1 311 kk (vp_nar .boolean 1)
      have s2 := q_sI s1 312 kk 0
      have s3 := q_sI s2 313 kk 0
      have F2 : Fr (pq kk) τ1 (sI (sI (sI τ1 311 kk (vp_nar .boolean 1)) 312 kk 0) 313 kk 0) := Fr.cI (Fr.cI (Fr.cI (Fr.refl S1) (by unfold pq; omega)) (by unfold pq; omega)) (by unfold pq; omega)
      rw [if_neg (by decide), u_fI304 S1, bs, h23, w_4, pk_mul, nI_add, hkk, bd_, u_R304_16 S1, bs, u_w311 S1 kk2, bs, u_R304_17 s1, bs, u_w312 s1 kk2, bs, u_R304_18 s2, bs, u_w313 s2 kk2, bs, u_kT304 s3, bs]
      have M1 : M9 (sI (sI (sI τ1 311 kk (vp_nar .boolean 1)) 312 kk 0) 313 kk 0) (put_ 5 v st) true := by
        refine M9_5 hI A9 v4 (M9_z F1 hM) (by rw [hkk]; exact F2) ?_ ?_ ?_
        · rw [hkk, gI_sI2 (by omega), gI_sI2 (by omega), gI_sI1]; decide
        · rw [hkk, gI_sI2 (by omega), gI_sI1]; rfl
        · rw [hkk, gI_sI1]; rfl
      rcases hk with hk | ⟨A', p', s', e, hk⟩
      · cases hk
      · cases e
        have inv5 : INV 5 (put_ 5 v st) := put_ok hI A9 (by decide) (by decide) m5 (fun z => by omega) (Nat.zero_le _) (by rw [hi_5]; omega) (fun _ => hb)
        have at2 := AT_fr F2 (by intro c k h; exact pq_c h) at1
        have F02 : Fr sr9 τ (sI (sI (sI τ1 311 kk (vp_nar .boolean 1)) 312 kk 0) 313 kk 0) := Fr.tr (Fr.mono F1 (by intro c k h; exact gz_s h)) (Fr.mono F2 (by intro c k h; exact pq_s kk1 h))
        have e1 : (put_ 5 v st).1 = st.1 := rfl
        have e2 : (put_ 5 v st).2.2 = v := rfl
        have st0 : (cT (put_ 5 v st)).2.1 = 0 := by
          show ((cP (put_ 5 v st)).2.2.2.2.2 v).2.1 = 0
          rw [put_5]
          have ec : cP ((uP st (f5 v)).1, (uP st (f5 v)).2.1, v) = f5 v (cP st) := cP_uP st (f5 v)
          rw [ec]
          show (if v = v then _ else _ : PD).2.1 = 0
          rw [if_pos rfl]
        generalize sI (sI (sI τ1 311 kk (vp_nar .boolean 1)) 312 kk 0) 313 kk 0 = τ2 at *
        have S2 := F2.1
        generalize hst5 : put_ 5 v st = st5 at *
        have fin (A6 p6 k6 : Nat) (st6 : PS) (τ6 : Mem) (hA6 : A6 = 5 ∨ A6 = 6 ∨ A6 = 8) (h6 : A6 = 5 → (tok T L p6).1 ≠ 6) (at6 : AT τ6 T L p6) (m6 : M9 τ6 st6 true) (i6 : INV A6 st6) (t6 : iterP T L k6 A6 p6 st6 = some r) (k6n : k6 ≤ k) (e6 : 4 * (10 + st6.1) + st6.2.2 = kk) (e7 : st6.1 = st.1) (lo6 : 0 + 1 = lo_ 7 st6) (F6 : Fr sr9 τ τ6) : ∃ f υ, fX9_readPart_b116 304 (nI kk) τ6 = some (f, υ) ∧ POUT T L (k + 1) r st.1 τ f υ := by
          obtain ⟨f, υ, y1, y2⟩ := toL FU k6 A6 p6 st6 τ6 0 hA6 h6 at6 m6 i6 t6 (by omega) lo6
          rw [e6] at y1
          refine ⟨f, υ, y1, ?_⟩
          rcases y2 with ⟨z0, p', k', s', z1, z2, z3, z4, z5, z6, z7⟩ | ⟨z0, z1⟩
          · exact Or.inl ⟨z0, p', k', s', by omega, z2, z3, z4, z5, by omega, Fr.tr F6 z7⟩
          · exact Or.inr ⟨z0, FOUT_l (Fr.mono F6 (by intro c k h; exact s_9 h)) z1⟩
        rw [isK at2 6 (by decide) 131360 (by decide) (isNb_N (by decide)), b2s]
        by_cases w6 : (tok T L p5).1 = 6
        · obtain ⟨τ3, y1, y2, y3⟩ := AT_go at2 (Or.inl ⟨by omega, by omega⟩)
          rw [decide_eq_true w6, if_neg (show ¬ bI true = 0 by decide), u_kT304 S2, bs, y1, bs, u_kT304 y2.1, bs]
          obtain ⟨f6, τ4, r3, r4⟩ := stN (τ := τ3) w6 (show mayF 5 6 = true by decide) (by decide) (by decide) (by decide) (fun z => by omega) inv5 (by decide) hk y3
          have r3 : fX9_readNumber 304 0 20000 τ3 = some (f6, τ4) := r3
          rw [r3, b2s]
          rcases r4 with ⟨rfl, v6, p6, k6, F4, hv6, h23', at6, hk6, it6, inv6⟩ | ⟨rfl, hF⟩
          · have S4 := F4.1
            have F24 : Fr gz τ2 τ4 := Fr.tr (Fr.mono y2 (by intro c k h; exact gq_z h)) F4
            have F5 : Fr (pq kk) τ4 (sI τ4 312 kk (nI v6)) := Fr.cI (Fr.refl S4) (by unfold pq; omega)
            rw [if_neg (by decide), u_R304_17 S4, bs, u_fI304 S4, bs, h23', u_w312 S4 kk2, bs]
            rw [put_6] at it6 inv6
            have ekk : 4 * (10 + st5.1) + st5.2.2 = kk := by rw [e1, e2]; exact hkk
            refine fin 6 p6 k6 _ _ (Or.inr (Or.inl rfl)) (fun z => by omega) (AT_fr F5 (by intro c k h; exact pq_c h) at6) ?_ inv6 it6 (by omega) ekk e1 ?_ (Fr.tr F02 (Fr.tr (Fr.mono F24 (by intro c k h; exact gz_s h)) (Fr.mono F5 (by intro c k h; exact pq_s kk1 h))))
            · refine M9_T (m := true) inv5 (by decide) (by decide) (M9_z F24 M1) (by rw [ekk]; exact F5) (by rw [ekk]; exact gI_sI2 (by omega)) (fun hx => ?_) (fun z => by cases z)
              rw [ekk] at hx ⊢
              obtain ⟨x1, x2, x3⟩ := hx
              exact ⟨gI_sI1, by rw [gI_sI2 (by omega)]; exact x2, fun i hi => by rw [gI_sI2 (by omega), gI_sI2 (by omega)]; exact x3 i hi⟩
            · rw [lo_7, cT_uT, if_pos (show (cT st5).2.1 = 0 from st0)]
          · rw [if_pos rfl]
            exact ⟨0, τ4, rfl, Or.inr ⟨rfl, FOUT_l (Fr.tr (Fr.mono F02 (by intro c k h; exact s_9 h)) (Fr.mono y2 (by intro c k h; exact gq_9 h))) hF⟩⟩
        · rw [decide_eq_false w6, if_pos (show bI false = 0 from rfl)]
          exact fin 5 p5 k st5 τ2 (Or.inl rfl) (fun _ => w6) at2 M1 inv5 hk (Nat.le_refl _) (by rw [e1, e2]; exact hkk) e1 (by rw [lo_7, if_pos st0]) F02
    · rw [if_pos rfl]
      refine ⟨0, τ1, rfl, Or.inr ⟨rfl, ?_⟩⟩
      rcases e with ⟨k2, l, g8⟩ | ⟨k2, g8⟩
      · rw [if_pos k2, if_neg (show ¬ (lo_ 5 st ≤ (tok T L q).2.2.2.2.1 ∧ (tok T L q).2.2.2.2.1 ≤ hi_ 5) from l)] at hk
        rcases hk with hk | ⟨A', p', s', e, hk⟩
        · cases hk; exact ⟨2, _, rfl, g8, g9, F1⟩
        · cases e
      · rw [if_neg k2] at hk
        rcases hk with hk | ⟨A', p', s', e, hk⟩
        · cases hk; exact ⟨1, _, rfl, g8, g9, F1⟩
        · cases e
  unfold fX9_readPart
  rw [u_fI304 hS, bs, g2]
  by_cases k2 : (tok T L q).2.1 = 2
  · have k3 : kn (tok T L q) = 3 := by unfold kn; rw [if_neg (by omega), if_pos k2]
    have kv : (tok T L q).2.2.2.2.1 ≤ 999999 := by
      rcases tok_k T L q with ⟨z, -⟩ | ⟨-, -, z⟩ | ⟨z, -⟩
      · omega
      · exact z
      · omega
    rw [if_pos (by rw [k3]; rfl), u_fI304 hS, bs, g5 k2]
    by_cases v4 : (tok T L q).2.2.2.2.1 < 4
    · rw [w_4, if_neg (nI_ge v4 (by decide)), u_R304_16 hS, bs, bs, pk_mul, nI_add, u_a311 hS (by omega), bs, (hM.2.2.2.2.2.2.2 _ v4).1]
      by_cases ct : (cP st).2.2.2.2.1.testBit (tok T L q).2.2.2.2.1 = true
      · obtain ⟨υ, u1, u2, u3, u4⟩ := badK (k := 3) hAT (Or.inr (by rw [k3]; decide))
        have u1 : (b2 (fX9_bad 304 3 τ) fun t m => if t = 0 ∨ t = 1 then some (t, m) else none) = some ((0 : Int32), υ) := u1
        rw [if_pos ct, if_neg (by decide), u_kT304 hS, bs, u1]
        unfold numS at hk
        rw [if_pos k2, if_pos ⟨Nat.zero_le _, by rw [hi_5]; omega⟩, if_pos ⟨rfl, ct⟩] at hk
        rcases hk with hk | ⟨A', p', s', e, hk⟩
        · cases hk; exact ⟨0, υ, rfl, Or.inr ⟨rfl, 3, _, rfl, u3, u4, u2⟩⟩
        · cases e
      · rw [if_neg ct, if_pos rfl]
        exact b38 (fun _ _ => by simpa using ct)
    · rw [w_4, if_pos (nI_le (by omega) (by omega))]
      exact b38 (fun _ z => absurd z v4)
  · have k3 : kn (tok T L q) ≠ 3 := by
      unfold kn
      by_cases z : (tok T L q).2.1 = 1
      · rw [if_pos z]; decide
      · rw [if_neg z, if_neg k2]
        repeat' split
        all_goals decide
    rw [if_neg (by rw [w_3, nI_eq (by have := kn_1 (T := T) (L := L) (pos := q); omega) (by decide)]; exact k3)]
    exact b38 (fun z => absurd z k2)
