/-! the reference's search: the loops -/
theorem fq_o {q age : Nat} {σ τ : Mem} (F : Fr (fun c j => (c = 320 ∧ j = 25 * q + age) ∨ (c = 322 ∧ 24 * (25 * q + age) ≤ j ∧ j < 24 * (25 * q + age) + 24)) σ τ) : Fr fq σ τ := Fr.mono F (by intro c j h; unfold fq; omega)
section
variable {w : WD} {h a i q p : Nat} {X Y : Int32} {rc92 : Nat → Int32 → Int32 → Int32 → Int32 → Mem → Option (Int32 × Mem)} {rc101 : Nat → Int32 → Int32 → Int32 → Int32 → Int32 → Mem → Option (Int32 × Mem)} {rc139 : Nat → Int32 → Int32 → Int32 → Int32 → Int32 → Int64 → Int32 → Mem → Option (Int32 × Mem)}
theorem ag151 (hw : okW w) (hm : a + i + 1 < 24) (hq : q < w.1) (hp : p < w.1) (hO : gO (gdOf w h) q (a + i + 1)) (n : Nat) : ∀ ag σ, ST σ → H9 σ w → CUR (gdOf w h) a i σ → NXT (gdOf w h) a (i + 1) (OS (gdOf w h) a i q p ag) σ → 1 ≤ ag → ag ≤ gT (gdOf w h) p + 1 → gT (gdOf w h) p + 1 < ag + n → ∃ τ, fX9_find_b151 rc92 rc101 rc139 n 304 X (nI a) Y (nI (a + i + 1)) (nI q) (lN (gC (gdOf w h) q (a + i + 1))) (nI p) (nI ag) σ = fX9_find_b300 rc92 rc101 rc139 304 X (nI a) Y (nI (a + i + 1)) (nI q) (lN (gC (gdOf w h) q (a + i + 1))) (nI p) τ ∧ Fr fq σ τ ∧ NXT (gdOf w h) a (i + 1) (OS (gdOf w h) a i q p (gT (gdOf w h) p + 1)) τ := by
  have hP := hw.1
  have hg := gd_ok (h := h) hw
  have tp := hg.2.1 p hp
  have tq := hg.2.1 q hq
  have eT (p : Nat) : gT (gdOf w h) p = (w.2.1 p).2.1 := rfl
  have tp' : 1 ≤ (w.2.1 p).2.1 ∧ (w.2.1 p).2.1 ≤ 24 := tp
  have tq' : 1 ≤ (w.2.1 q).2.1 ∧ (w.2.1 q).2.1 ≤ 24 := tq
  have hC := hg.2.2.1 q (a + i + 1) hq hm
  have hW := hg.2.2.2
  have eW : gW (gdOf w h) = w.2.2.2 := rfl
  induction n with
  | zero => intro ag σ _ _ _ _ _ _ hn; omega
  | succ n ih =>
    intro ag σ hS h9 hcur hnx h1 h2 h3
    rw [fX9_find_b151, u_R304_13 hS, bs, trmA hS hw h9 hp, bs]
    by_cases c : ag ≤ gT (gdOf w h) p
    · have c' : ag ≤ (w.2.1 p).2.1 := c
      obtain ⟨os, s1, s2⟩ := hcur p ag hp h1 c
      -- what goes on behind an offer
      have skip (hs : ∀ q' age' z, OS (gdOf w h) a i q p (ag + 1) q' age' z ↔ OS (gdOf w h) a i q p ag q' age' z) : ∃ τ, fX9_find_b294 rc92 rc101 rc139 (fX9_find_b151 rc92 rc101 rc139 n) 304 X (nI a) Y (nI (a + i + 1)) (nI q) (lN (gC (gdOf w h) q (a + i + 1))) (nI p) (nI ag) σ = fX9_find_b300 rc92 rc101 rc139 304 X (nI a) Y (nI (a + i + 1)) (nI q) (lN (gC (gdOf w h) q (a + i + 1))) (nI p) τ ∧ Fr fq σ τ ∧ NXT (gdOf w h) a (i + 1) (OS (gdOf w h) a i q p (gT (gdOf w h) p + 1)) τ := by
        unfold fX9_find_b294
        rw [bd_, nI_1]
        exact ih (ag + 1) σ hS h9 hcur (NXT_x hnx (fun q' age' z => (hs q' age' z).symm)) (by omega) (by rw [eT]; omega) (by omega)
      have offer (age0 cc x : Nat) (f : Nat → Nat) (ha0 : 1 ≤ age0) (ha1 : age0 ≤ gT (gdOf w h) q) (hcc : cc < 1000000000000) (hf : ∀ j, j < i + 1 → f (a + j) < 10 ∧ gI σ 321 (24 * (25 * p + ag) + j) = nI (f (a + j))) (hx : x = cc * 1000000000000000000000000 + (cd f a (i + 1) + q * ee (a + i + 1 + 1))) (hs : ∀ q' age' z, OS (gdOf w h) a i q p (ag + 1) q' age' z ↔ OS (gdOf w h) a i q p ag q' age' z ∨ (q' = q ∧ age' = age0 ∧ z = x)) : ∃ τ, ((fX9_offer 304 (nI (25 * p + ag)) (nI q) (nI age0) (nI (i + 1)) (lN cc) σ).bind fun m4 => fX9_find_b294 rc92 rc101 rc139 (fX9_find_b151 rc92 rc101 rc139 n) 304 X (nI a) Y (nI (a + i + 1)) (nI q) (lN (gC (gdOf w h) q (a + i + 1))) (nI p) (nI ag) m4) = fX9_find_b300 rc92 rc101 rc139 304 X (nI a) Y (nI (a + i + 1)) (nI q) (lN (gC (gdOf w h) q (a + i + 1))) (nI p) τ ∧ Fr fq σ τ ∧ NXT (gdOf w h) a (i + 1) (OS (gdOf w h) a i q p (gT (gdOf w h) p + 1)) τ := by
        obtain ⟨o, o1, o2⟩ := hnx q age0 hq ha0 ha1
        obtain ⟨τ, t1, t2, t3⟩ := offr (of := 25 * p + ag) (n := i + 1) hS (by omega) (by omega) (by omega) (by omega) hcc hf o2
        have t3 : KQ τ q a (i + 1) (25 * q + age0) (om o x) := by rw [hx]; exact t3
        have F := fq_o t2
        obtain ⟨υ, u1, u2, u3⟩ := ih (ag + 1) τ t2.1 (H9_q F (by intro c k h; unfold fq at h; omega) h9) (CUR_fr F hcur) (nx_o hg (by omega) hq ha1 t2 hnx o1 t3 hs) (by omega) (by rw [eT]; omega) (by omega)
        refine ⟨υ, ?_, Fr.tr F u2, u3⟩
        rw [t1, bs]
        unfold fX9_find_b294
        rw [bd_, nI_1]
        exact u1
      unfold fX9_state
      rw [if_neg (nI_nlt c' (by omega)), b2s, w_25, pk_mul, nI_add, u_R304_29 hS, bs, u_a319 hS (by omega), bs]
      cases os with
      | none =>
        have s2 : gJ σ 319 (25 * p + ag) = lN 1000000000000000 := s2
        rw [s2, if_pos (show lN 1000000000000000 = (1000000000000000 : Int64) from rfl)]
        refine skip (fun q' age' z => ?_)
        rw [OS_1 (g := gdOf w h) hp h1 c]
        constructor
        · rintro (k | ⟨-, -, -, y, k, -⟩)
          · exact k
          · exact absurd k.1 (s1 y)
        · exact Or.inl
      | some y =>
        obtain ⟨cc, f, k1, k2, k3, k4⟩ := s2
        have uy (y' : Nat) (hy : Lst (PP (gdOf w h) a i p ag) (some y')) : y' = y := Option.some.inj (Lst_u hy s1)
        have bnd : cc ≤ 80000000000 := by
          obtain ⟨C, D, b1, b2', b3⟩ := PP_b hg i p ag y (by omega) s1.1
          have b4 := cd_b (f := f) (a := a) (n := i + 1) (by omega) (fun j hj => (k3 j hj).1)
          have b5 := ee_le a
          have b6 := ee_pos (a + i + 1)
          have b7 : (i + 1) * 3200779999 ≤ 24 * 3200779999 := Nat.mul_le_mul_right _ (by omega)
          have b8 := key_u (c := cc) (c' := C) (D := cd f a (i + 1)) (D' := D) (by rw [← k4, ← b1]) b4 (by omega)
          omega
        rw [k2, if_neg (by rw [show (1000000000000000 : Int64) = lN 1000000000000000 from rfl, pk_lEQ (by omega) (by decide)]; omega)]
        by_cases cp : p = q
        · subst cp
          rw [if_pos rfl, u_R304_13 hS, bs, trmA hS hw h9 hp, bs]
          have nk (age0 : Nat) (ha : age0 = if ag < gT (gdOf w h) p then ag + 1 else ag) : ∃ τ, fX9_find_b222 rc92 rc101 rc139 (fX9_find_b151 rc92 rc101 rc139 n) 304 X (nI a) Y (nI (a + i + 1)) (nI p) (lN (gC (gdOf w h) p (a + i + 1))) (nI p) (nI ag) (nI (25 * p + ag)) (nI age0) (nI p) (nI (25 * p + ag)) (some 304) σ = fX9_find_b300 rc92 rc101 rc139 304 X (nI a) Y (nI (a + i + 1)) (nI p) (lN (gC (gdOf w h) p (a + i + 1))) (nI p) τ ∧ Fr fq σ τ ∧ NXT (gdOf w h) a (i + 1) (OS (gdOf w h) a i p p (gT (gdOf w h) p + 1)) τ := by
            unfold fX9_find_b222
            rw [u_R304_29 hS, bs, u_a319 hS (by omega), bs, k2, u_kT304 hS, bs, pk_sub (by omega), show a + i + 1 - a = i + 1 by omega, lN_add]
            refine offer age0 (cc + gC (gdOf w h) p (a + i + 1)) (y + (gC (gdOf w h) p (a + i + 1) * 1000000000000000000000000 + p * ee (a + i + 1 + 1))) f (by rw [ha]; split <;> omega) (by rw [ha, eT]; split <;> omega) (by omega) k3 (by rw [k4, Nat.add_mul]; omega) (fun q' age' z => ?_)
            rw [OS_1 (g := gdOf w h) hp h1 c]
            constructor
            · rintro (k | ⟨rfl, -, -, y', k, kt⟩)
              · exact Or.inl k
              · have := uy y' k
                subst this
                rcases kt with ⟨-, e2, e3⟩ | ⟨e1, -⟩
                · exact Or.inr ⟨rfl, e2.trans ha.symm, e3⟩
                · exact absurd rfl e1
            · rintro (k | ⟨rfl, rfl, rfl⟩)
              · exact Or.inl k
              · exact Or.inr ⟨rfl, hq, hO, y, s1, Or.inl ⟨rfl, ha, rfl⟩⟩
          by_cases c2 : (w.2.1 p).2.1 ≤ ag
          · rw [if_pos (nI_le c2 (by omega))]
            exact nk ag (by rw [if_neg (by rw [eT]; omega)])
          · rw [if_neg (nI_ge (by omega) (by omega)), nI_1]
            exact nk (ag + 1) (by rw [if_pos (by rw [eT]; omega)])
        · rw [if_neg (by rw [nI_eq (by omega) (by omega)]; exact cp), u_R304_13 hS, bs, trmA hS hw h9 hp, bs]
          by_cases c2 : ag = (w.2.1 p).2.1
          · rw [if_pos (by rw [c2]), u_kT304 hS, bs, mBeg hS hw h9 hq hm, b2s]
            by_cases c3 : (w.2.1 q).2.2.1 ≤ a + i + 1 ∧ a + i + 1 ≤ (w.2.1 q).2.2.2.1
            · rw [if_pos c3, if_neg (by decide), u_R304_29 hS, bs, u_a319 hS (by omega), bs, k2, u_fI304 hS, bs, h9.2.2.2, nI_l (by omega), u_kT304 hS, bs, pk_sub (by omega), show a + i + 1 - a = i + 1 by omega, lN_add, lN_add, w_1]
              refine offer 1 (cc + gC (gdOf w h) q (a + i + 1) + w.2.2.2) (y + ((gC (gdOf w h) q (a + i + 1) + gW (gdOf w h)) * 1000000000000000000000000 + q * ee (a + i + 1 + 1))) f (Nat.le_refl _) tq.1 (by omega) k3 (by rw [k4, Nat.add_mul, Nat.add_mul, Nat.add_mul]; omega) (fun q' age' z => ?_)
              rw [OS_1 (g := gdOf w h) hp h1 c]
              constructor
              · rintro (k | ⟨rfl, -, -, y', k, kt⟩)
                · exact Or.inl k
                · have := uy y' k
                  subst this
                  rcases kt with ⟨e1, -⟩ | ⟨-, -, -, e2, e3⟩
                  · exact absurd e1 cp
                  · exact Or.inr ⟨rfl, e2, e3⟩
              · rintro (k | ⟨rfl, rfl, rfl⟩)
                · exact Or.inl k
                · exact Or.inr ⟨rfl, hq, hO, y, s1, Or.inr ⟨cp, c2, c3, rfl, rfl⟩⟩
            · rw [if_neg c3, if_pos rfl]
              refine skip (fun q' age' z => ?_)
              rw [OS_1 (g := gdOf w h) hp h1 c]
              constructor
              · rintro (k | ⟨rfl, -, -, y', k, kt⟩)
                · exact k
                · rcases kt with ⟨e1, -⟩ | ⟨-, -, e1, -⟩
                  · exact absurd e1 cp
                  · exact absurd e1 c3
              · exact Or.inl
          · rw [if_neg (by rw [nI_eq (by omega) (by omega)]; exact c2)]
            refine skip (fun q' age' z => ?_)
            rw [OS_1 (g := gdOf w h) hp h1 c]
            constructor
            · rintro (k | ⟨rfl, -, -, y', k, kt⟩)
              · exact k
              · rcases kt with ⟨e1, -⟩ | ⟨-, e1, -⟩
                · exact absurd e1 cp
                · exact absurd e1 c2
            · exact Or.inl
    · have e : ag = gT (gdOf w h) p + 1 := by omega
      subst e
      rw [if_pos (nI_lt (by rw [eT]; omega) (by omega))]
      exact ⟨σ, rfl, Fr.refl hS, hnx⟩
theorem pl139 (hw : okW w) (hm : a + i + 1 < 24) (hq : q < w.1) (hO : gO (gdOf w h) q (a + i + 1)) (n : Nat) : ∀ p σ, ST σ → H9 σ w → CUR (gdOf w h) a i σ → NXT (gdOf w h) a (i + 1) (OS (gdOf w h) a i q p 1) σ → p ≤ w.1 → w.1 < p + n → ∃ τ, fX9_find_b139 rc92 rc101 n 304 X (nI a) Y (nI (a + i + 1)) (nI q) (lN (gC (gdOf w h) q (a + i + 1))) (nI p) σ = fX9_find_b306 rc92 rc101 304 X (nI a) Y (nI (a + i + 1)) (nI q) τ ∧ Fr fq σ τ ∧ NXT (gdOf w h) a (i + 1) (OS (gdOf w h) a i (q + 1) 0 1) τ := by
  have hP := hw.1
  have hg := gd_ok (h := h) hw
  induction n with
  | zero => intro p σ _ _ _ _ _ hn; omega
  | succ n ih =>
    intro p σ hS h9 hcur hnx h1 h2
    rw [fX9_find_b139, u_fI304 hS, bs, h9.1]
    by_cases c : p < w.1
    · have tp := hg.2.1 p c
      obtain ⟨τ, t1, t2, t3⟩ := ag151 (rc92 := rc92) (rc101 := rc101) (rc139 := fX9_find_b139 rc92 rc101 n) (X := X) (Y := Y) hw hm hq c hO FU 1 σ hS h9 hcur hnx (Nat.le_refl _) (by omega) (by unfold FU; omega)
      obtain ⟨υ, u1, u2, u3⟩ := ih (p + 1) τ t2.1 (H9_q t2 (by intro c k h; unfold fq at h; omega) h9) (CUR_fr t2 hcur) (NXT_x t3 (fun _ _ _ => OS_2)) (by omega) (by omega)
      refine ⟨υ, ?_, Fr.tr t2 u2, u3⟩
      rw [if_neg (nI_ge c (by omega)), w_1, t1]
      unfold fX9_find_b300
      rw [bd_, w_1, nI_add]
      exact u1
    · have e : p = w.1 := by omega
      subst e
      rw [if_pos (nI_le (Nat.le_refl _) (by omega))]
      exact ⟨σ, rfl, Fr.refl hS, NXT_x hnx (fun _ _ _ => OS_3)⟩
theorem ql101 (hw : okW w) (hh : h < 16) (hm : a + i + 1 < 24) (n : Nat) : ∀ q σ, ST σ → H9 σ w → CUR (gdOf w h) a i σ → NXT (gdOf w h) a (i + 1) (OS (gdOf w h) a i q 0 1) σ → q ≤ w.1 → w.1 < q + n → ∃ τ, fX9_find_b101 rc92 n 304 (nI h) (nI a) Y (nI (a + i + 1)) (nI q) σ = fX9_find_b312 rc92 304 (nI h) (nI a) Y (nI (a + i + 1)) τ ∧ Fr fq σ τ ∧ NXT (gdOf w h) a (i + 1) (OS (gdOf w h) a i w.1 0 1) τ := by
  have hP := hw.1
  have hg := gd_ok (h := h) hw
  induction n with
  | zero => intro p σ _ _ _ _ _ hn; omega
  | succ n ih =>
    intro q σ hS h9 hcur hnx h1 h2
    rw [fX9_find_b101, u_fI304 hS, bs, h9.1]
    by_cases c : q < w.1
    · rw [if_neg (nI_ge c (by omega)), u_kT304 hS, bs, mHave hS hw h9 c hh hm, b2s]
      by_cases cm : mayT (w.2.1 q) (tog w.2.2.1 h (a + i + 1)) 0
      · obtain ⟨τ, t1, t2, t3⟩ := pl139 (rc92 := rc92) (rc101 := fX9_find_b101 rc92 n) (X := nI h) (Y := Y) hw hm c cm FU 0 σ hS h9 hcur hnx (by omega) (by unfold FU; omega)
        obtain ⟨υ, u1, u2, u3⟩ := ih (q + 1) τ t2.1 (H9_q t2 (by intro c k h; unfold fq at h; omega) h9) (CUR_fr t2 hcur) t3 (by omega) (by omega)
        refine ⟨υ, ?_, Fr.tr t2 u2, u3⟩
        rw [if_pos cm, if_neg (by decide), u_kT304 hS, bs, mCost hS hw h9 c hh hm, b2s]
        refine Eq.trans t1 ?_
        unfold fX9_find_b306
        rw [bd_, nI_1]
        exact u1
      · obtain ⟨υ, u1, u2, u3⟩ := ih (q + 1) σ hS h9 hcur (NXT_x hnx (fun _ _ _ => OS_4 cm)) (by omega) (by omega)
        refine ⟨υ, ?_, u2, u3⟩
        rw [if_neg cm, if_pos rfl]
        unfold fX9_find_b306
        rw [bd_, nI_1]
        exact u1
    · have e : q = w.1 := by omega
      subst e
      rw [if_pos (nI_le (Nat.le_refl _) (by omega))]
      exact ⟨σ, rfl, Fr.refl hS, hnx⟩
end
def fr4 (c : Nat) (_ : Nat) : Prop := 319 ≤ c ∧ c ≤ 322
/-- a new month's tables are empty -/
theorem NXT_0 {g : GD} {a n : Nat} {S : Nat → Nat → Nat → Prop} {σ : Mem} (hg : okG g) (hD : ∀ s, s < 250 → gJ σ 320 s = lN 1000000000000000) (hS : ∀ q age z, ¬ S q age z) : NXT g a n S σ := by
  intro q age h1 h2 h3
  have h4 := hg.1
  have h5 := hg.2.1 q h1
  exact ⟨none, fun z => hS q age z, hD _ (by omega)⟩
theorem mo92 {w : WD} {h a b : Nat} (hw : okW w) (hh : h < 16) (hab : a < b) (hb : b ≤ 24) (n : Nat) : ∀ i σ, ST σ → H9 σ w → CUR (gdOf w h) a i σ → (∀ s, s < 250 → gJ σ 320 s = lN 1000000000000000) → a + i + 1 ≤ b → b < a + i + 1 + n → ∃ τ, fX9_find_b92 n 304 (nI h) (nI a) (nI b) (nI (a + i + 1)) σ = fX9_find_b322 304 (nI a) (nI b) τ ∧ Fr fr4 σ τ ∧ CUR (gdOf w h) a (b - a - 1) τ := by
  have hP := hw.1
  have hg := gd_ok (h := h) hw
  induction n with
  | zero => intro p σ _ _ _ _ _ hn; omega
  | succ n ih =>
    intro i σ hS h9 hcur hD h1 h2
    rw [fX9_find_b92]
    by_cases c : a + i + 1 < b
    · obtain ⟨τ, t1, t2, t3⟩ := ql101 (rc92 := fX9_find_b92 n) (Y := nI b) (i := i) hw hh (by omega) FU 0 σ hS h9 hcur (NXT_0 hg hD (by
        rintro q age z ⟨-, -, p, ag, y, hz, -, hz2, -⟩
        unfold Pz at hz
        omega)) (by omega) (by unfold FU; omega)
      obtain ⟨υ, u1, u2, u3⟩ := turn_ t2.1
      have F : Fr fr4 σ υ := Fr.trans t2 u2 (by intro c k h; unfold fq at h; unfold fr4; omega) (by intro c k h; unfold fr4; omega)
      have cur2 : CUR (gdOf w h) a (i + 1) υ := by
        intro q age k1 k2 k3
        obtain ⟨o, o1, o2⟩ := t3 q age k1 k2 k3
        have k4 := hg.2.1 q k1
        have k5 : q < w.1 := k1
        exact ⟨o, OS_5 hg (fun q' age' l1 l2 l3 => by
          obtain ⟨o', p1, -⟩ := hcur q' age' l1 l2 l3
          exact ⟨o', p1⟩) o1, KQ_turn (by omega) (by omega) (by omega) (u3 _ (by omega)) o2⟩
      obtain ⟨x, x1, x2, x3⟩ := ih (i + 1) υ u2.1 (H9_q F (by intro c k h; unfold fr4 at h; omega) h9) cur2 (fun s hs => (u3 s hs).2.1) (by omega) (by omega)
      refine ⟨x, ?_, Fr.tr F x2, x3⟩
      rw [if_neg (nI_ge c (by omega))]
      refine Eq.trans t1 ?_
      unfold fX9_find_b312
      rw [u_kT304 t2.1, bs, u1, bs, bd_, nI_1]
      exact x1
    · have e : b = a + i + 1 := by omega
      subst e
      rw [if_pos (nI_le (Nat.le_refl _) (by omega))]
      exact ⟨σ, rfl, Fr.refl hS, by rw [show a + i + 1 - a - 1 = i by omega]; exact hcur⟩
/-! the start -/
theorem in30 {w : WD} {h a : Nat} {Y : Int32} (hw : okW w) (hh : h < 16) (ha : a < 24) (n : Nat) : ∀ p σ, ST σ → H9 σ w → NXT (gdOf w h) a 0 (fun q age x => q < p ∧ PP (gdOf w h) a 0 q age x) σ → p ≤ w.1 → w.1 < p + n → ∃ τ, fX9_find_b30 n 304 (nI h) (nI a) Y (nI p) σ = fX9_find_b83 304 (nI h) (nI a) Y τ ∧ Fr fq σ τ ∧ NXT (gdOf w h) a 0 (PP (gdOf w h) a 0) τ := by
  have hP := hw.1
  have hg := gd_ok (h := h) hw
  induction n with
  | zero => intro p σ _ _ _ _ hn; omega
  | succ n ih =>
    intro p σ hS h9 hnx h1 h2
    rw [fX9_find_b30, u_fI304 hS, bs, h9.1]
    by_cases c : p < w.1
    · have skip (hs : ∀ age x, ¬ PP (gdOf w h) a 0 p age x) : ∃ τ, fX9_find_b77 (fX9_find_b30 n) 304 (nI h) (nI a) Y (nI p) σ = fX9_find_b83 304 (nI h) (nI a) Y τ ∧ Fr fq σ τ ∧ NXT (gdOf w h) a 0 (PP (gdOf w h) a 0) τ := by
        unfold fX9_find_b77
        rw [bd_, nI_1]
        refine ih (p + 1) σ hS h9 (NXT_x hnx (fun q age z => ?_)) (by omega) (by omega)
        constructor
        · rintro ⟨k1, k2⟩; exact ⟨by omega, k2⟩
        · rintro ⟨k1, k2⟩
          by_cases e : q = p
          · subst e; exact absurd k2 (hs age z)
          · exact ⟨by omega, k2⟩
      rw [if_neg (nI_ge c (by omega)), u_kT304 hS, bs, mBeg hS hw h9 c ha, b2s]
      by_cases c1 : (w.2.1 p).2.2.1 ≤ a ∧ a ≤ (w.2.1 p).2.2.2.1
      · rw [if_pos c1, if_neg (by decide), u_kT304 hS, bs, mHave hS hw h9 c hh ha, b2s]
        by_cases cm : mayT (w.2.1 p) (tog w.2.2.1 h a) 0
        · have hC := hg.2.2.1 p a c ha
          have tp := hg.2.1 p c
          obtain ⟨o, o1, o2⟩ := hnx p 1 c (Nat.le_refl _) tp.1
          obtain ⟨τ, t1, t2, t3⟩ := offr (of := 0) (n := 0) (c := gC (gdOf w h) p a) (fs := fun _ => 0) hS (by decide) (by omega) (by decide) ha (by omega) (fun i hi => absurd hi (Nat.not_lt_zero i)) o2
          have t3 : KQ τ p a 0 (25 * p + 1) (om o (gC (gdOf w h) p a * 1000000000000000000000000 + p * ee (a + 1))) := by
            have e : cd (fun _ => 0) a 0 + p * ee (a + 0 + 1) = p * ee (a + 1) := Nat.zero_add _
            rw [e] at t3
            exact t3
          have F := fq_o t2
          obtain ⟨υ, u1, u2, u3⟩ := ih (p + 1) τ t2.1 (H9_q F (by intro c k h; unfold fq at h; omega) h9) (nx_o hg (by decide) c tp.1 t2 hnx o1 t3 (fun q' age' z => by
            constructor
            · rintro ⟨k1, k2⟩
              by_cases e : q' = p
              · subst e
                obtain ⟨-, -, -, e1, e2⟩ := k2
                exact Or.inr ⟨rfl, e1, e2⟩
              · exact Or.inl ⟨by omega, k2⟩
            · rintro (⟨k1, k2⟩ | ⟨rfl, rfl, rfl⟩)
              · exact ⟨by omega, k2⟩
              · exact ⟨by omega, c, c1, cm, rfl, rfl⟩)) (by omega) (by omega)
          refine ⟨υ, ?_, Fr.tr F u2, u3⟩
          rw [if_pos cm, if_neg (by decide), u_kT304 hS, bs, mCost hS hw h9 c hh ha, b2s, u_kT304 hS, bs]
          have e1 : fX9_offer 304 0 (nI p) 1 0 (lN (mco (w.2.1 p) (tog w.2.2.1 h a))) σ = some τ := t1
          rw [e1, bs]
          unfold fX9_find_b77
          rw [bd_, nI_1]
          exact u1
        · rw [if_neg cm, if_pos rfl]
          exact skip (fun age x k => cm k.2.2.1)
      · rw [if_neg c1, if_pos rfl]
        exact skip (fun age x k => c1 k.2.1)
    · have e : p = w.1 := by omega
      subst e
      rw [if_pos (nI_le (Nat.le_refl _) (by omega))]
      refine ⟨σ, rfl, Fr.refl hS, NXT_x hnx (fun q age z => ?_)⟩
      constructor
      · rintro ⟨-, k⟩; exact k
      · intro k; exact ⟨k.1, k⟩
theorem fl3 {X A Y : Int32} (n : Nat) : ∀ s σ, ST σ → s ≤ 250 → 250 < s + n → ∃ τ, fX9_find_b3 n 304 X A Y (nI s) σ = fX9_find_b27 304 X A Y τ ∧ Fr fq σ τ ∧ (∀ t, s ≤ t → t < 250 → gJ τ 320 t = lN 1000000000000000) ∧ ∀ t, t < s → gJ τ 320 t = gJ σ 320 t := by
  induction n with
  | zero => intro p σ _ _ hn; omega
  | succ n ih =>
    intro s σ hS h1 h2
    rw [fX9_find_b3]
    by_cases c : s < 250
    · have F : Fr fq σ (sJ σ 320 s 1000000000000000) := Fr.cJ (Fr.refl hS) (Or.inl rfl)
      obtain ⟨τ, t1, t2, t3, t4⟩ := ih (s + 1) _ F.1 (by omega) (by omega)
      refine ⟨τ, ?_, Fr.tr F t2, fun t k1 k2 => ?_, fun t ht => ?_⟩
      · rw [w_250, if_neg (nI_ge c (by omega)), u_R304_30 hS, bs, u_w320 hS c, bs, bd_, nI_1]
        exact t1
      · by_cases e : t = s
        · subst e
          rw [t4 t (by omega), gJ_sJ1]
          rfl
        · exact t3 t (by omega) k2
      · rw [t4 t (by omega), gJ_sJ2 (by omega)]
    · have e : s = 250 := by omega
      subst e
      rw [if_pos (by decide)]
      exact ⟨σ, rfl, Fr.refl hS, fun t k1 k2 => by omega, fun _ _ => rfl⟩
