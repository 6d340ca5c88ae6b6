/-! the reference's reader: the whole text -/
def TOUT (r : FR) (τ : Mem) (f : Int32) (υ : Mem) : Prop := (f = 1 ∧ ∃ st', r = .inr st' ∧ gI υ 304 24 = nI st'.1 ∧ (∀ p, p < st'.1 → HN9 υ (10 + p) (st'.2.1 p)) ∧ INV 10 st' ∧ Fr sr9 τ υ) ∨ (f = 0 ∧ FOUT τ υ r)
theorem TOUT_l {r : FR} {τ τ' υ : Mem} {f : Int32} (F : Fr sr9 τ τ') (h : TOUT r τ' f υ) : TOUT r τ f υ := by
  rcases h with ⟨z0, s', z1, z2, z3, z4, z5⟩ | ⟨z0, z1⟩
  · exact Or.inl ⟨z0, s', z1, z2, z3, z4, Fr.tr F z5⟩
  · exact Or.inr ⟨z0, FOUT_l (Fr.mono F (by intro c k h; exact s_9 h)) z1⟩
theorem M9_a {τ : Mem} {st : PS} (h : M9 τ st false) : ∀ p, p < st.1 + 1 → HN9 τ (10 + p) (st.2.1 p) := by
  intro p hp
  obtain ⟨a1, a2, a3, a4, a5, a6, a7, a8⟩ := h
  by_cases c : p = st.1
  · subst c
    refine ⟨a3, a4, a5, a6, a7, fun s hs => ⟨(a8 s hs).1, fun ht => ?_⟩⟩
    obtain ⟨⟨b1, b2, b3⟩, b4⟩ := (a8 s hs).2 ht
    exact ⟨b1, b2, b4 (fun z => by cases z.1), b3⟩
  · exact a2 p (by omega)
theorem kn_0 {T : Nat → Nat} {L pos : Nat} : kn (tok T L pos) = 0 ↔ (tok T L pos).1 = 11 := by
  rcases tok_k T L pos with ⟨h1, -, h2, -⟩ | ⟨h1, h2, -⟩ | ⟨h1, h2⟩
  · have := wd_12 (tok T L pos).2.2.2.2.2
    unfold kn
    rw [if_pos h1]
    constructor
    · intro h; omega
    · intro h; omega
  · unfold kn
    rw [if_neg (by omega), if_pos h1]
    constructor
    · intro h; omega
    · intro h; omega
  · unfold kn
    rw [if_neg (by omega), if_neg (by omega)]
    rcases h2 with h2 | h2 | h2 <;> rw [h2] <;> decide
theorem rT14 {T : Nat → Nat} {L : Nat} {r : FR} (N : Nat) : ∀ n A pos st τ, (A = 10 ∨ A = 12) → (A = 10 → (tok T L pos).1 ≠ 11) → AT τ T L pos → gI τ 304 24 = nI st.1 → (∀ p, p < st.1 → HN9 τ (10 + p) (st.2.1 p)) → INV A st → iterP T L n A pos st = some r → n < N → n < FU → ∃ f υ, fX9_readText_b14 N 304 τ = some (f, υ) ∧ TOUT r τ f υ := by
  induction N with
  | zero => intro n A pos st τ _ _ _ _ _ _ _ hn; omega
  | succ N ih =>
    intro n A pos st τ hA h11 hAT h24 hD hI hit hn hFU
    have hS := hAT.1
    rw [fX9_readText_b14, u_kT304 hS, bs, isK hAT 0 (by decide) 323717 (by decide) (isNb_N (by decide)), b2s]
    by_cases w0 : (tok T L pos).1 = 0
    · have m0 : mayF A 0 = true := by rcases hA with rfl | rfl <;> decide
      rw [decide_eq_true w0, if_neg (show ¬ bI true = 0 by decide), u_fI304 hS, bs, h24]
      have i1 := hI.1
      by_cases c10 : st.1 = 10
      · have hs : stepP T L A pos st = .inl (.inl (4, (tok T L pos).2.2.1)) := by
          unfold stepP
          rw [if_neg (by rw [w0, m0]; decide), if_neg (by omega), if_neg (by omega), if_pos w0, if_pos (by omega)]
        obtain ⟨k, rfl, hk⟩ := it_s hit
        rw [hs] at hk
        obtain ⟨υ, u1, u2, u3, u4⟩ := badK (k := 4) hAT (Or.inr (by unfold kn; rw [if_pos (tok_w (by omega))]; decide))
        have u1 : (b2 (fX9_bad 304 4 τ) fun t m => if t = 0 ∨ t = 1 then some (t, m) else none) = some ((0 : Int32), υ) := u1
        rw [if_pos (by rw [c10]; rfl), u_kT304 hS, bs, u1]
        rcases hk with hk | ⟨A', p', s', e, hk⟩
        · cases hk
          exact ⟨0, υ, rfl, Or.inr ⟨rfl, 4, _, rfl, u3, u4, u2⟩⟩
        · cases e
      · obtain ⟨τ1, g1, g2, g3⟩ := AT_go hAT (Or.inl ⟨by omega, by omega⟩)
        have S1 := g2.1
        have F1 : Fr sr9 τ τ1 := Fr.mono g2 (by intro c k h; exact gq_s h)
        have e24 : gI τ1 304 24 = nI st.1 := (g2.2 304 24 (by unfold gq; omega)).1.trans h24
        rw [if_neg (by rw [w_10, nI_eq (by omega) (by decide)]; exact c10), u_kT304 hS, bs, g1, bs, u_fI304 S1, bs, u_kT304 S1, bs, e24]
        obtain ⟨f, τ2, r1, r2⟩ := rPlan hA w0 (by omega) g3 e24 (fun p hp => HN9_fr g2 (by unfold gq; omega) (by unfold gq; omega) (by unfold gq; omega) (st_3 hI p hp) (hD p hp)) hI hit hFU
        rw [r1, b2s]
        rcases r2 with ⟨rfl, p9, k9, st9, z1, z2, z3, z4, z5, z6, z7⟩ | ⟨rfl, hF⟩
        · have S2 := z3.1
          have F3 : Fr (fun c k => c = 304 ∧ k = 24) τ2 (sI τ2 304 24 (nI (st9.1 + 1))) := Fr.cI (Fr.refl S2) (by omega)
          have S3 := F3.1
          have z3' := z3
          obtain ⟨-, -, -, ⟨-, gk, -, -, -⟩, -, -⟩ := z3'
          have at3 : AT (sI τ2 304 24 (nI (st9.1 + 1))) T L p9 := by
            obtain ⟨y1, y2, y3, ⟨g1, g2, g3, g4, g5⟩, y5, y6⟩ := z3
            refine ⟨S3, tq_fr F3 (by omega) y2, ?_, ⟨?_, ?_, fun h => ?_, fun h => ?_, fun h => ?_⟩, y5, y6⟩
            · rw [gI_sI2 (by omega)]; exact y3
            · rw [gI_sI2 (by omega)]; exact g1
            · rw [gI_sI2 (by omega)]; exact g2
            · rw [gI_sI2 (by omega)]; exact g3 h
            · rw [rdJI]; exact g4 h
            · rw [gI_sI2 (by omega)]; exact g5 h
          have HD3 : ∀ p, p < st9.1 + 1 → HN9 (sI τ2 304 24 (nI (st9.1 + 1))) (10 + p) (st9.2.1 p) := fun p hp => HN9_fr F3 (by omega) (by omega) (by omega) (st_3 z5 p hp) (M9_a z4 p hp)
          have F03 : Fr sr9 τ (sI τ2 304 24 (nI (st9.1 + 1))) := Fr.tr (Fr.tr F1 z7) (Fr.mono F3 (by intro c k h; unfold sr9; omega))
          rw [if_neg (by decide), u_fI304 S2, bs, z4.1, nI_1, u_pI304 S2, bs, u_fI304 S3, bs, gI_sI2 (by omega), gk]
          by_cases c0 : (tok T L p9).1 = 11
          · rw [if_pos (by rw [kn_0.mpr c0]; rfl)]
            obtain ⟨k, rfl, hk⟩ := it_s z2
            have hs : stepP T L 10 p9 (st9.1 + 1, st9.2.1, st9.2.2) = .inl (.inr (st9.1 + 1, st9.2.1, st9.2.2)) := by
              unfold stepP
              rw [if_neg (by rw [c0]; decide), if_pos c0]
            rw [hs] at hk
            rcases hk with hk | ⟨A', p', s', e, hk⟩
            · cases hk
              exact ⟨1, _, rfl, Or.inl ⟨rfl, _, rfl, gI_sI1, HD3, z5, F03⟩⟩
            · cases e
          · have k5 := kn_1 (T := T) (L := L) (pos := p9)
            rw [if_neg (by rw [w_0, nI_eq (by omega) (by decide)]; exact fun z => c0 (kn_0.mp z))]
            obtain ⟨f', υ, y1, y2⟩ := ih k9 10 p9 (st9.1 + 1, st9.2.1, st9.2.2) _ (Or.inl rfl) (fun _ => c0) at3 gI_sI1 HD3 z5 z2 (by omega) (by omega)
            exact ⟨f', υ, y1, TOUT_l F03 y2⟩
        · rw [if_pos rfl]
          exact ⟨0, τ2, rfl, Or.inr ⟨rfl, FOUT_l (Fr.mono F1 (by intro c k h; exact s_9 h)) hF⟩⟩
    · rw [decide_eq_false w0, if_pos (show bI false = 0 from rfl)]
      have hm : mayF A (tok T L pos).1 = false := by
        have hw := tok_le T L pos
        cases e : mayF A (tok T L pos).1 with
        | false => rfl
        | true =>
          exfalso
          rcases hA with rfl | rfl
          · have h11 := h11 rfl
            unfold mayF at e
            simp [w0, h11] at e
          · unfold mayF at e
            simp [w0] at e
      obtain ⟨k, rfl, hk⟩ := it_s hit
      rw [sP_b hm] at hk
      obtain ⟨υ, u1, u2, u3, u4⟩ := badK (k := 1) hAT (Or.inl rfl)
      have u1 : (b2 (fX9_bad 304 1 τ) fun t m => if t = 0 ∨ t = 1 then some (t, m) else none) = some ((0 : Int32), υ) := u1
      rw [u_kT304 hS, bs, u1]
      rcases hk with hk | ⟨A', p', s', e, hk⟩
      · cases hk; exact ⟨0, υ, rfl, Or.inr ⟨rfl, 1, _, rfl, u3, u4, u2⟩⟩
      · cases e
/-- the reference reads the text -/
theorem rTx9 {τ : Mem} {T : Nat → Nat} {L n : Nat} {D : Nat → NL} {cur : Nat} {r : FR} (hS : ST τ) (hL : L ≤ 840) (ht : tq τ T) (e3 : gI τ 304 3 = nI L) (hit : iterP T L n 12 0 (0, D, cur) = some r) (hn : n < FU) : ∃ f υ, fX9_readText 304 τ = some (f, υ) ∧ TOUT r τ f υ := by
  unfold fX9_readText
  have F2 : Fr sr9 τ (sI (sI τ 304 24 0) 304 4 0) := Fr.cI (Fr.cI (Fr.refl hS) (by unfold sr9; omega)) (by unfold sr9; omega)
  have S2 := F2.1
  obtain ⟨τ3, g1, g2, g3⟩ := gog (pos := 0) S2 hL (tq_fr F2 (by unfold sr9; omega) ht) (Nat.zero_le _) (by rw [gI_sI2 (by omega), gI_sI2 (by omega)]; exact e3) gI_sI1
  have S3 := g2.1
  rw [u_pI304 hS, bs, u_pI304 (q_sI hS 304 24 0), bs, u_kT304 S2, bs, g1, bs]
  have F3 : Fr sr9 τ τ3 := Fr.tr F2 (Fr.mono g2 (by intro c k h; exact gq_s h))
  obtain ⟨f, υ, y1, y2⟩ := rT14 FU n 12 0 (0, D, cur) τ3 (Or.inr rfl) (fun z => by omega) ⟨S3, tq_fr F3 (by unfold sr9; omega) ht, (F3.2 304 3 (by unfold sr9; omega)).1.trans e3, g3, Nat.zero_le _, hL⟩ (by
    rw [(g2.2 304 24 (by unfold gq; omega)).1, gI_sI2 (by omega), gI_sI1]; rfl) (fun p hp => absurd hp (Nat.not_lt_zero p)) ⟨Nat.zero_le _, fun p hp => absurd hp (Nat.not_lt_zero p), fun h => absurd h (by decide), fun _ h => absurd h (by decide), fun h => absurd h (by decide), fun h => absurd h (by decide)⟩ hit hn hn
  exact ⟨f, υ, y1, TOUT_l F3 y2⟩
