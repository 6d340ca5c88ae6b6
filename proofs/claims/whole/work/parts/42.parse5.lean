/-! the reference's reader: parts -/
theorem it_s {T : Nat → Nat} {L n A pos : Nat} {st : PS} {r : FR} (h : iterP T L n A pos st = some r) : ∃ k, n = k + 1 ∧ (stepP T L A pos st = .inl r ∨ ∃ A' p' s', stepP T L A pos st = .inr (A', p', s') ∧ iterP T L k A' p' s' = some r) := by
  cases n with
  | zero => cases h
  | succ k =>
    refine ⟨k, rfl, ?_⟩
    have h : (match stepP T L A pos st with
      | .inl r => some r
      | .inr (A', pos', st') => iterP T L k A' pos' st') = some r := h
    cases e : stepP T L A pos st with
    | inl x => rw [e] at h; cases h; exact Or.inl rfl
    | inr x =>
      obtain ⟨A', p', s'⟩ := x
      rw [e] at h
      exact Or.inr ⟨A', p', s', rfl, h⟩
theorem sP_b {T : Nat → Nat} {L A pos : Nat} {st : PS} (h : mayF A (tok T L pos).1 = false) : stepP T L A pos st = .inl (.inl (1, (tok T L pos).2.2.1)) := by unfold stepP; rw [if_pos h]
theorem sP_n {T : Nat → Nat} {L A pos : Nat} {st : PS} (h : mayF A (tok T L pos).1 = true) (h1 : 1 ≤ (tok T L pos).1) (h9 : (tok T L pos).1 ≤ 9) (h7 : ¬ ((tok T L pos).1 = 7 ∧ 3 ≤ (cT st).2.1)) : stepP T L A pos st = numS (tok T L pos).1 (tok T L (tok T L pos).2.2.2.1) st := by
  unfold stepP
  rw [if_neg (by rw [h]; decide), if_neg (by omega), if_neg (by omega), if_neg (by omega), if_neg h7]
def FOUT (τ υ : Mem) (r : FR) : Prop := ∃ kd pl, r = .inl (kd, pl) ∧ gI υ 304 8 = nI kd ∧ gI υ 304 9 = nI pl ∧ Fr fr9 τ υ
theorem FOUT_l {τ τ' υ : Mem} {r : FR} (F : Fr fr9 τ τ') (h : FOUT τ' υ r) : FOUT τ υ r := by
  obtain ⟨kd, pl, h1, h2, h3, h4⟩ := h
  exact ⟨kd, pl, h1, h2, h3, Fr.tr F h4⟩
theorem lo_b {A w : Nat} {st : PS} (hI : INV A st) (hA : A ≤ 9) (hf : mayF A w = true) : lo_ w st < 2 ^ 31 := by
  obtain ⟨-, -, j3⟩ := hI.2.2.1 hA
  unfold lo_
  split
  · decide
  · split
    · have := j3.2.2.2.1; have := j3.2.2.2.2.1; omega
    · split
      · rename_i c7
        obtain ⟨q1, q2⟩ := hI.2.2.2.1 (by have := (mF_x (by omega) hf).2.2.2.2.2.2.1 c7; omega) hA
        have q3 := j3.2.2.2.2.2.2 _ q1 q2
        split
        · decide
        · have := (q3.2.2.1 ((cT st).2.1 - 1) (by show (cT st).2.1 - 1 < (cT st).2.1; omega)).2.1
          have : (cT st).2.2.1 ((cT st).2.1 - 1) ≤ 20000 := this
          omega
      · decide
/-- a number behind word w (not 'for') -/
theorem stN {τ : Mem} {T : Nat → Nat} {L n A pos w : Nat} {st : PS} {r : FR} (hw : (tok T L pos).1 = w) (hm : mayF A w = true) (h1 : 1 ≤ w) (h9 : w ≤ 9) (h5 : w ≠ 5) (h7 : w = 7 → (cT st).2.1 < 3) (hI : INV A st) (hA : A ≤ 9) (hit : iterP T L n A pos st = some r) (hAT : AT τ T L (tok T L pos).2.2.2.1) : ∃ f υ, fX9_readNumber 304 (nI (lo_ w st)) (nI (hi_ w)) τ = some (f, υ) ∧ ((f = 1 ∧ ∃ v pos' k, Fr gz τ υ ∧ v ≤ hi_ w ∧ gI υ 304 23 = nI v ∧ AT υ T L pos' ∧ k < n ∧ iterP T L k w pos' (put_ w v st) = some r ∧ INV w (put_ w v st)) ∨ (f = 0 ∧ FOUT τ υ r)) := by
  have hs := sP_n (T := T) (L := L) (A := A) (pos := pos) (st := st) (by rw [hw]; exact hm) (by omega) (by omega) (fun z => by have := h7 (by omega); omega)
  rw [hw] at hs
  obtain ⟨f, υ, u1, u2⟩ := rdN hAT (lo_b hI hA hm) (by have := hi_b w; omega : hi_ w < 2 ^ 31)
  refine ⟨f, υ, u1, ?_⟩
  obtain ⟨k, rfl, hk⟩ := it_s hit
  rw [hs] at hk
  unfold numS at hk
  rcases u2 with ⟨rfl, F, k2, l1, l2, hat, h23⟩ | ⟨rfl, F, g9, e⟩
  · rw [if_pos k2, if_pos ⟨l1, l2⟩, if_neg (fun z => h5 z.1)] at hk
    rcases hk with hk | ⟨A', p', s', e, hk⟩
    · cases hk
    · cases e
      exact Or.inl ⟨rfl, _, _, k, F, l2, h23, hat, by omega, hk, put_ok hI hA h1 h9 hm h7 l1 l2 (fun z => absurd z h5)⟩
  · refine Or.inr ⟨rfl, ?_⟩
    rcases e with ⟨k2, l, g8⟩ | ⟨k2, g8⟩
    · rw [if_pos k2, if_neg l] at hk
      rcases hk with hk | ⟨A', p', s', e, hk⟩
      · cases hk; exact ⟨2, _, rfl, g8, g9, F⟩
      · cases e
    · rw [if_neg k2] at hk
      rcases hk with hk | ⟨A', p', s', e, hk⟩
      · cases hk; exact ⟨1, _, rfl, g8, g9, F⟩
      · cases e
/-- a word that alone may come -/
theorem stK {τ : Mem} {T : Nat → Nat} {L n A pos : Nat} {st : PS} {r : FR} (i : Nat) (hi : i < 10) (c : Int64) (hc : c = lN (enc 27 96 (wds.getD i []) 0)) (hN : isNb (wds.getD i []) = true) (ho : mayF A (tok T L pos).1 = true → (tok T L pos).1 = i) (hit : iterP T L n A pos st = some r) (hAT : AT τ T L pos) : ∃ f υ, fX9_readKey 304 c τ = some (f, υ) ∧ ((f = 1 ∧ Fr gq τ υ ∧ (tok T L pos).1 = i ∧ AT υ T L (tok T L pos).2.2.2.1) ∨ (f = 0 ∧ FOUT τ υ r)) := by
  obtain ⟨f, υ, u1, u2⟩ := rdK hAT i hi c hc (isNb_N hN)
  refine ⟨f, υ, u1, ?_⟩
  rcases u2 with h | ⟨rfl, F, k1, g8, g9⟩
  · exact Or.inl h
  · refine Or.inr ⟨rfl, ?_⟩
    have hm : mayF A (tok T L pos).1 = false := by
      cases e : mayF A (tok T L pos).1 with
      | false => rfl
      | true => exact absurd (ho e) k1
    obtain ⟨k, rfl, hk⟩ := it_s hit
    rw [sP_b hm] at hk
    rcases hk with hk | ⟨A', p', s', e, hk⟩
    · cases hk; exact ⟨1, _, rfl, g8, g9, F⟩
    · cases e
theorem uT_uT (st : PS) (f g : PD → PD) : uT (uT st f) g = uT st (fun d => g (f d)) := by
  unfold uT uP
  refine Prod.ext rfl (Prod.ext (funext fun i => ?_) rfl)
  by_cases c : i = st.1
  · subst c
    simp
    funext s
    by_cases e : s = st.2.2 <;> simp [e]
  · simp [c]
theorem cP_uT (st : PS) (f : PD → PD) : cP (uT st f) = ((cP st).1, (cP st).2.1, (cP st).2.2.1, (cP st).2.2.2.1, (cP st).2.2.2.2.1, (fun s => if s = st.2.2 then f ((cP st).2.2.2.2.2 s) else (cP st).2.2.2.2.2 s)) := cP_uP st _
theorem cT_uT (st : PS) (f : PD → PD) : cT (uT st f) = f (cT st) := by
  show (cP (uT st f)).2.2.2.2.2 st.2.2 = _
  rw [cP_uT]
  show (if st.2.2 = st.2.2 then _ else _) = _
  rw [if_pos rfl]
  rfl
theorem st_3 {A : Nat} {st : PS} (hI : INV A st) : ∀ p, p < st.1 → ∀ s, s < 4 → (st.2.1 p).2.2.2.2.2.1.testBit s = true → ((st.2.1 p).2.2.2.2.2.2 s).2.1 ≤ 3 := fun p hp s s1 s2 => ((hI.2.1 p hp).2.2.2.2.2.2.2 s s1 s2).2.1
def pq (kk c k : Nat) : Prop := ((c = 311 ∨ c = 312 ∨ c = 313 ∨ c = 316) ∧ k = kk) ∨ ((c = 314 ∨ c = 315) ∧ 3 * kk ≤ k ∧ k < 3 * kk + 3)
theorem pq_9 {kk c k : Nat} (hk : 40 ≤ kk) (h : pq kk c k) : fr9 c k := by unfold pq at h; unfold fr9; omega
theorem pq_c {kk c k : Nat} (h : pq kk c k) : 306 ≤ c ∧ c ≤ 316 := by unfold pq at h; omega
def sr9 (c k : Nat) : Prop := (c = 304 ∧ ((4 ≤ k ∧ k ≤ 7) ∨ k = 10 ∨ k = 23 ∨ k = 24)) ∨ (306 ≤ c ∧ c ≤ 310 ∧ 10 ≤ k) ∨ ((c = 311 ∨ c = 312 ∨ c = 313 ∨ c = 316) ∧ 40 ≤ k) ∨ ((c = 314 ∨ c = 315) ∧ 120 ≤ k)
theorem s_9 {c k : Nat} (h : sr9 c k) : fr9 c k := by unfold sr9 at h; unfold fr9; omega
theorem gz_s {c k : Nat} (h : gz c k) : sr9 c k := by unfold gz at h; unfold sr9; omega
theorem gq_s {c k : Nat} (h : gq c k) : sr9 c k := gz_s (gq_z h)
theorem pq_s {kk c k : Nat} (hk : 40 ≤ kk) (h : pq kk c k) : sr9 c k := by unfold pq at h; unfold sr9; omega
/-- the part at hand is changed -/
theorem M9_T {τ υ : Mem} {A : Nat} {st : PS} {f : PD → PD} {m m' : Bool} (hI : INV A st) (hA : 5 ≤ A) (hA9 : A ≤ 9) (h : M9 τ st m) (F : Fr (pq (4 * (10 + st.1) + st.2.2)) τ υ) (h311 : gI υ 311 (4 * (10 + st.1) + st.2.2) = gI τ 311 (4 * (10 + st.1) + st.2.2)) (hM : HMx τ (4 * (10 + st.1) + st.2.2) (cT st) → HMx υ (4 * (10 + st.1) + st.2.2) (f (cT st))) (hm : m' = false → gI υ 316 (4 * (10 + st.1) + st.2.2) = nI (f (cT st)).2.2.2.2) : M9 υ (uT st f) m' := by
  obtain ⟨a1, a2, a3, a4, a5, a6, a7, a8⟩ := h
  obtain ⟨q1, q2⟩ := hI.2.2.2.1 hA hA9
  obtain ⟨j1, -, j3⟩ := hI.2.2.1 hA9
  have en : (uT st f).1 = st.1 := rfl
  have ec : (uT st f).2.2 = st.2.2 := rfl
  have el : ((uT st f).2.1 st.1).1 = (st.2.1 st.1).1 := by
    show (if st.1 = st.1 then _ else _ : NL).1 = _
    rw [if_pos rfl]
  unfold M9
  rw [en, ec, el, cP_uT]
  refine ⟨(F.2 304 24 (by unfold pq; omega)).1.trans a1, fun p hp => ?_, (F.2 306 _ (by unfold pq; omega)).2.1.trans a3, (F.2 307 _ (by unfold pq; omega)).1.trans a4, (F.2 308 _ (by unfold pq; omega)).1.trans a5, (F.2 309 _ (by unfold pq; omega)).1.trans a6, (F.2 310 _ (by unfold pq; omega)).1.trans a7, fun s hs => ?_⟩
  · have e : (uT st f).2.1 p = st.2.1 p := by
      show (if p = st.1 then _ else _ : NL) = _
      rw [if_neg (by omega)]
    rw [e]
    exact HN9_fr F (by unfold pq; omega) (by unfold pq; omega) (by unfold pq; omega) (st_3 hI p hp) (a2 p hp)
  · obtain ⟨b1, b2'⟩ := a8 s hs
    by_cases c : s = st.2.2
    · subst c
      refine ⟨h311.trans b1, fun ht => ?_⟩
      obtain ⟨c1, c2⟩ := b2' ht
      show HMx υ _ (if st.2.2 = st.2.2 then f ((cP st).2.2.2.2.2 st.2.2) else _) ∧ (_ → _ = nI (if st.2.2 = st.2.2 then f ((cP st).2.2.2.2.2 st.2.2) else _ : PD).2.2.2.2)
      rw [if_pos rfl]
      refine ⟨hM c1, fun z => ?_⟩
      cases m' with
      | false => exact hm rfl
      | true => exact absurd ⟨rfl, rfl⟩ z
    · refine ⟨(F.2 311 _ (by unfold pq; omega)).1.trans b1, fun ht => ?_⟩
      obtain ⟨⟨c1, c2, c3⟩, c4⟩ := b2' ht
      have h3 := (j3.2.2.2.2.2.2 s hs ht).2.1
      show HMx υ _ (if s = st.2.2 then f ((cP st).2.2.2.2.2 s) else (cP st).2.2.2.2.2 s) ∧ (_ → _ = nI (if s = st.2.2 then f ((cP st).2.2.2.2.2 s) else (cP st).2.2.2.2.2 s : PD).2.2.2.2)
      rw [if_neg c]
      exact ⟨⟨(F.2 312 _ (by unfold pq; omega)).1.trans c1, (F.2 313 _ (by unfold pq; omega)).1.trans c2, fun i hi => ⟨(F.2 314 _ (by unfold pq; omega)).1.trans (c3 i hi).1, (F.2 315 _ (by unfold pq; omega)).1.trans (c3 i hi).2⟩⟩, fun _ => (F.2 316 _ (by unfold pq; omega)).1.trans (c4 (fun z => c z.2))⟩
/-- what a part's reading comes to -/
def POUT (T : Nat → Nat) (L n : Nat) (r : FR) (N : Nat) (τ : Mem) (f : Int32) (υ : Mem) : Prop := (f = 1 ∧ ∃ pos' k st', k < n ∧ iterP T L k 9 pos' st' = some r ∧ AT υ T L pos' ∧ M9 υ st' false ∧ INV 9 st' ∧ st'.1 = N ∧ Fr sr9 τ υ) ∨ (f = 0 ∧ FOUT τ υ r)
theorem toL {T : Nat → Nat} {L : Nat} {r : FR} (N : Nat) : ∀ n A pos st τ had, (A = 5 ∨ A = 6 ∨ A = 8) → (A = 5 → (tok T L pos).1 ≠ 6) → AT τ T L pos → M9 τ st true → INV A st → iterP T L n A pos st = some r → n < N → had + 1 = lo_ 7 st → ∃ f υ, fX9_readPart_b118 N 304 (nI (4 * (10 + st.1) + st.2.2)) (nI had) τ = some (f, υ) ∧ POUT T L n r st.1 τ f υ := by
  induction N with
  | zero => intro n A pos st τ had _ _ _ _ _ _ hn; omega
  | succ N ih =>
    intro n A pos st τ had hA h6 hAT hM hI hit hn hh
    have hS := hAT.1
    have A5 : 5 ≤ A := by omega
    have A9 : A ≤ 9 := by omega
    obtain ⟨q1, q2⟩ := hI.2.2.2.1 A5 A9
    obtain ⟨j1, j2, j3⟩ := hI.2.2.1 A9
    have q3 : (cT st).2.1 ≤ 3 := (j3.2.2.2.2.2.2 _ q1 q2).2.1
    have m7 : mayF A 7 = true := by rcases hA with rfl | rfl | rfl <;> decide
    have m9 : mayF A 9 = true := by rcases hA with rfl | rfl | rfl <;> decide
    obtain ⟨c312, c313, c314⟩ := ((hM.2.2.2.2.2.2.2 _ q1).2 q2).1
    have c313 : gI τ 313 (4 * (10 + st.1) + st.2.2) = nI (cT st).2.1 := c313
    generalize hkk : 4 * (10 + st.1) + st.2.2 = kk at *
    have kk1 : 40 ≤ kk := by omega
    have kk2 : kk < 80 := by omega
    rw [fX9_readPart_b118, u_kT304 hS, bs, isK hAT 7 (by decide) 555 (by decide) (isNb_N (by decide)), b2s]
    by_cases w7 : (tok T L pos).1 = 7
    · rw [decide_eq_true w7, if_neg (show ¬ bI true = 0 by decide), u_R304_18 hS, bs, u_a313 hS kk2, bs, c313]
      by_cases s3 : (cT st).2.1 = 3
      · have hs : stepP T L A pos st = .inl (.inl (4, (tok T L pos).2.2.1)) := by
          unfold stepP
          rw [if_neg (by rw [w7, m7]; decide), if_neg (by omega), if_neg (by omega), if_neg (by omega), if_pos ⟨w7, by omega⟩]
        obtain ⟨k, rfl, hk⟩ := it_s hit
        rw [hs] at hk
        obtain ⟨υ, u1, u2, u3, u4⟩ := badK (k := 4) hAT (Or.inr (by unfold kn; rw [if_pos (tok_w (by omega))]; decide))
        have u1 : (b2 (fX9_bad 304 4 τ) fun t m => if t = 0 ∨ t = 1 then some (t, m) else none) = some ((0 : Int32), υ) := u1
        rw [if_pos (by rw [s3]; rfl), u_kT304 hS, bs, u1]
        rcases hk with hk | ⟨A', p', s', e, hk⟩
        · cases hk
          exact ⟨0, υ, rfl, Or.inr ⟨rfl, 4, _, rfl, u3, u4, u2⟩⟩
        · cases e
      · obtain ⟨τ1, g1, g2, g3⟩ := AT_go hAT (Or.inl ⟨by omega, by omega⟩)
        have S1 := g2.1
        rw [if_neg (by rw [w_3, nI_eq (by omega) (by decide)]; exact s3), u_kT304 hS, bs, g1, bs, u_kT304 S1, bs, nI_1, hh]
        obtain ⟨f, τ2, r1, r2⟩ := stN (τ := τ1) w7 m7 (by decide) (by decide) (by decide) (fun _ => by omega) hI A9 hit g3
        have r1 : fX9_readNumber 304 (nI (lo_ 7 st)) 20000 τ1 = some (f, τ2) := r1
        rw [r1, b2s]
        rcases r2 with ⟨rfl, v, pos7, k7, F2, hv, h23, at7, hk7, it7, inv7⟩ | ⟨rfl, hF⟩
        · have F02 : Fr gz τ τ2 := Fr.tr (Fr.mono g2 (by intro c k h; exact gq_z h)) F2
          have S2 := F2.1
          have e313 : gI τ2 313 kk = nI (cT st).2.1 := (F02.2 313 kk (by unfold gz; omega)).1.trans c313
          have F3 : Fr (pq kk) τ2 (sI τ2 314 (3 * kk + (cT st).2.1) (nI v)) := Fr.cI (Fr.refl S2) (by unfold pq; omega)
          have S3 := F3.1
          rw [if_neg (by decide), u_fI304 S2, bs, h23, u_R304_18 S2, bs, u_a313 S2 kk2, bs, e313, w_3, pk_mul, nI_add, bd_, u_R304_19 S2, bs, bs, u_w314 S2 (by omega), bs, u_kT304 S3, bs]
          have at7' := AT_fr F3 (by intro c k h; exact pq_c h) at7
          obtain ⟨f3, τ4, k1, k2⟩ := stK (τ := sI τ2 314 (3 * kk + (cT st).2.1) (nI v)) (A := 7) 8 (by decide) 47 (by decide) (by decide) (fun z => by
            have := (mF_x (by decide) z)
            have l := tok_le T L pos7
            have : (tok T L pos7).1 = 8 := by
              unfold mayF at z
              simpa using z
            exact this) it7 at7'
          rw [k1, b2s]
          rcases k2 with ⟨rfl, F4, w8, at8⟩ | ⟨rfl, hF⟩
          · rw [if_neg (by decide), u_kT304 F4.1, bs]
            obtain ⟨f5, τ5, r3, r4⟩ := stN (τ := τ4) w8 (show mayF 7 8 = true by decide) (by decide) (by decide) (by decide) (fun z => by omega) inv7 (by decide) it7 at8
            have r3 : fX9_readNumber 304 0 9999 τ4 = some (f5, τ5) := r3
            rw [r3, b2s]
            rcases r4 with ⟨rfl, v2, pos8, k8, F5, hv2, h23', at8', hk8, it8, inv8⟩ | ⟨rfl, hF⟩
            · have S5 := F5.1
              have F35 : Fr gz (sI τ2 314 (3 * kk + (cT st).2.1) (nI v)) τ5 := Fr.tr (Fr.mono F4 (by intro c k h; exact gq_z h)) F5
              have e313' : gI τ5 313 kk = nI (cT st).2.1 := by
                rw [(F35.2 313 kk (by unfold gz; omega)).1, gI_sI2 (by omega)]; exact e313
              have F6 : Fr (pq kk) τ5 (sI (sI τ5 315 (3 * kk + (cT st).2.1) (nI v2)) 313 kk (nI ((cT st).2.1 + 1))) := Fr.cI (Fr.cI (Fr.refl S5) (by unfold pq; omega)) (by unfold pq; omega)
              have S6 := q_sI S5 315 (3 * kk + (cT st).2.1) (nI v2)
              rw [if_neg (by decide), u_R304_20 S5, bs, u_fI304 S5, bs, h23', u_w315 S5 (by omega), bs, u_R304_18 S6, bs, u_a313 S6 kk2, bs, gI_sI2 (by omega), e313', u_w313 S6 kk2, bs, nI_1]
              have est : put_ 8 v2 (put_ 7 v st) = uT st (fun d => f8 v2 (f7 v d)) := by
                rw [put_7, put_8, uT_uT]
              rw [est] at it8 inv8
              -- the memory
              have M1 := M9_z F02 hM
              have FT : Fr (pq kk) τ2 (sI (sI (sI τ2 314 (3 * kk + (cT st).2.1) (nI v)) 315 (3 * kk + (cT st).2.1) (nI v2)) 313 kk (nI ((cT st).2.1 + 1))) := Fr.cI (Fr.cI F3 (by unfold pq; omega)) (by unfold pq; omega)
              have FZ : Fr gz (sI (sI (sI τ2 314 (3 * kk + (cT st).2.1) (nI v)) 315 (3 * kk + (cT st).2.1) (nI v2)) 313 kk (nI ((cT st).2.1 + 1))) (sI (sI τ5 315 (3 * kk + (cT st).2.1) (nI v2)) 313 kk (nI ((cT st).2.1 + 1))) := by
                refine ⟨F6.1, fun c k hc => ?_⟩
                obtain ⟨x1, x2, x3⟩ := F35.2 c k hc
                refine ⟨?_, x2, x3⟩
                rw [rdI, rdI, rdI, rdI]
                split
                · rfl
                · split
                  · rfl
                  · exact x1
              have M2 : M9 (sI (sI (sI τ2 314 (3 * kk + (cT st).2.1) (nI v)) 315 (3 * kk + (cT st).2.1) (nI v2)) 313 kk (nI ((cT st).2.1 + 1))) (uT st (fun d => f8 v2 (f7 v d))) true := by
                refine M9_T (m := true) hI A5 A9 M1 (by rw [hkk]; exact FT) (by rw [hkk]; exact (gI_sI2 (by omega)).trans ((gI_sI2 (by omega)).trans (gI_sI2 (by omega)))) (fun hx => ?_) (fun z => by cases z)
                rw [hkk] at hx ⊢
                obtain ⟨x1, x2, x3⟩ := hx
                refine ⟨?_, gI_sI1, fun i hi => ?_⟩
                · rw [gI_sI2 (by omega), gI_sI2 (by omega), gI_sI2 (by omega)]; exact x1
                · have hi : i < (cT st).2.1 + 1 := hi
                  have a1 : (f8 v2 (f7 v (cT st))).2.2.1 i = if i = (cT st).2.1 then v else (cT st).2.2.1 i := rfl
                  have a2 : (f8 v2 (f7 v (cT st))).2.2.2.1 i = if i = (cT st).2.1 + 1 - 1 then v2 else (if i = (cT st).2.1 then 0 else (cT st).2.2.2.1 i) := rfl
                  rw [a1, a2, Nat.add_sub_cancel]
                  by_cases c : i = (cT st).2.1
                  · rw [if_pos c, if_pos c, c]
                    constructor
                    · rw [gI_sI2 (by omega), gI_sI2 (by omega), gI_sI1]
                    · rw [gI_sI2 (by omega), gI_sI1]
                  · obtain ⟨y1, y2⟩ := x3 i (by omega)
                    rw [if_neg c, if_neg c, if_neg c]
                    constructor
                    · rw [gI_sI2 (by omega), gI_sI2 (by omega), gI_sI2 (by omega)]; exact y1
                    · rw [gI_sI2 (by omega), gI_sI2 (by omega), gI_sI2 (by omega)]; exact y2
              have M3 := M9_z FZ M2
              have lo8 : v + 1 = lo_ 7 (uT st (fun d => f8 v2 (f7 v d))) := by
                rw [lo_7, cT_uT]
                have e1 : (f8 v2 (f7 v (cT st))).2.1 = (cT st).2.1 + 1 := rfl
                have e2 : (f8 v2 (f7 v (cT st))).2.2.1 ((cT st).2.1 + 1 - 1) = v := by
                  show (if (cT st).2.1 + 1 - 1 = (cT st).2.1 then v else _) = v
                  rw [if_pos (by omega)]
                rw [e1, if_neg (by omega), e2]
              obtain ⟨f7', υ, y1, y2⟩ := ih k8 8 pos8 (uT st (fun d => f8 v2 (f7 v d))) _ v (Or.inr (Or.inr rfl)) (fun z => by omega) (AT_fr F6 (by intro c k h; exact pq_c h) at8') M3 inv8 it8 (by omega) lo8
              have F06 : Fr sr9 τ (sI (sI τ5 315 (3 * kk + (cT st).2.1) (nI v2)) 313 kk (nI ((cT st).2.1 + 1))) := Fr.tr (Fr.tr (Fr.tr (Fr.mono F02 (by intro c k h; exact gz_s h)) (Fr.mono F3 (by intro c k h; exact pq_s kk1 h))) (Fr.mono F35 (by intro c k h; exact gz_s h))) (Fr.mono F6 (by intro c k h; exact pq_s kk1 h))
              have y1 : fX9_readPart_b118 N 304 (nI (4 * (10 + st.1) + st.2.2)) (nI v) (sI (sI τ5 315 (3 * kk + (cT st).2.1) (nI v2)) 313 kk (nI ((cT st).2.1 + 1))) = some (f7', υ) := y1
              rw [hkk] at y1
              refine ⟨f7', υ, y1, ?_⟩
              rcases y2 with ⟨z0, p', k, s', z1, z2, z3, z4, z5, z6, z7⟩ | ⟨z0, z1⟩
              · exact Or.inl ⟨z0, p', k, s', by omega, z2, z3, z4, z5, z6, Fr.tr F06 z7⟩
              · exact Or.inr ⟨z0, FOUT_l (Fr.mono F06 (by intro c k h; exact s_9 h)) z1⟩
            · rw [if_pos rfl]
              exact ⟨0, τ5, rfl, Or.inr ⟨rfl, FOUT_l (Fr.tr (Fr.tr (Fr.mono F02 (by intro c k h; exact gz_9 h)) (Fr.mono F3 (by intro c k h; exact pq_9 kk1 h))) (Fr.mono F4 (by intro c k h; exact gq_9 h))) hF⟩⟩
          · rw [if_pos rfl]
            exact ⟨0, τ4, rfl, Or.inr ⟨rfl, FOUT_l (Fr.tr (Fr.mono F02 (by intro c k h; exact gz_9 h)) (Fr.mono F3 (by intro c k h; exact pq_9 kk1 h))) hF⟩⟩
        · rw [if_pos rfl]
          exact ⟨0, τ2, rfl, Or.inr ⟨rfl, FOUT_l (Fr.mono g2 (by intro c k h; exact gq_9 h)) hF⟩⟩
    · rw [decide_eq_false w7, if_pos (show bI false = 0 from rfl)]
      unfold fX9_readPart_b238
      rw [u_kT304 hS, bs]
      obtain ⟨f3, τ4, k1, k2⟩ := stK (τ := τ) (A := A) 9 (by decide) 358472 (by decide) (by decide) (fun z => by
        rcases hA with rfl | rfl | rfl
        · have h6 := h6 rfl
          unfold mayF at z
          simp [w7, h6] at z
          exact z
        · unfold mayF at z
          simp [w7] at z
          exact z
        · unfold mayF at z
          simp [w7] at z
          exact z) hit hAT
      rw [k1, b2s]
      rcases k2 with ⟨rfl, F4, w9, at9⟩ | ⟨rfl, hF⟩
      · rw [if_neg (by decide), u_kT304 F4.1, bs]
        obtain ⟨f5, τ5, r3, r4⟩ := stN (τ := τ4) w9 m9 (by decide) (by decide) (by decide) (fun z => by omega) hI A9 hit at9
        have r3 : fX9_readNumber 304 0 9999 τ4 = some (f5, τ5) := r3
        rw [r3, b2s]
        rcases r4 with ⟨rfl, v, pos9, k9, F5, hv, h23, at9', hk9, it9, inv9⟩ | ⟨rfl, hF⟩
        · have S5 := F5.1
          have F05 : Fr gz τ τ5 := Fr.tr (Fr.mono F4 (by intro c k h; exact gq_z h)) F5
          have F6 : Fr (pq kk) τ5 (sI τ5 316 kk (nI v)) := Fr.cI (Fr.refl S5) (by unfold pq; omega)
          rw [if_neg (by decide), u_R304_21 S5, bs, u_fI304 S5, bs, h23, u_w316 S5 kk2, bs]
          rw [put_9] at it9 inv9
          refine ⟨1, _, rfl, Or.inl ⟨rfl, pos9, k9, _, hk9, it9, AT_fr F6 (by intro c k h; exact pq_c h) at9', ?_, inv9, rfl, Fr.tr (Fr.mono F05 (by intro c k h; exact gz_s h)) (Fr.mono F6 (by intro c k h; exact pq_s kk1 h))⟩⟩
          refine M9_T (m := true) hI A5 A9 (M9_z F05 hM) (by rw [hkk]; exact F6) (by rw [hkk]; exact gI_sI2 (by omega)) (fun hx => ?_) (fun _ => by rw [hkk, gI_sI1])
          rw [hkk] at hx ⊢
          obtain ⟨x1, x2, x3⟩ := hx
          exact ⟨by rw [gI_sI2 (by omega)]; exact x1, by rw [gI_sI2 (by omega)]; exact x2, fun i hi => by rw [gI_sI2 (by omega), gI_sI2 (by omega)]; exact x3 i hi⟩
        · rw [if_pos rfl]
          exact ⟨0, τ5, rfl, Or.inr ⟨rfl, FOUT_l (Fr.mono F4 (by intro c k h; exact gq_9 h)) hF⟩⟩
      · rw [if_pos rfl]
        exact ⟨0, τ4, rfl, Or.inr ⟨rfl, hF⟩⟩
