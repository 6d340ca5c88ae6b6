/-! the class's reader: its loop -/
theorem hasN_i {D : Nat → NL} {l : List Nat} : ∀ n, hasN D l n = true ↔ ∃ q, q < n ∧ (D q).1 = l := by
  intro n
  induction n with
  | zero => simp [hasN]
  | succ n ih =>
    have e : hasN D l (n + 1) = (hasN D l n || decide ((D n).1 = l)) := rfl
    rw [e, Bool.or_eq_true, ih, decide_eq_true_eq]
    constructor
    · rintro (⟨q, q1, q2⟩ | h)
      · exact ⟨q, by omega, q2⟩
      · exact ⟨n, by omega, h⟩
    · rintro ⟨q, q1, q2⟩
      by_cases c : q = n
      · subst c; exact Or.inr q2
      · exact Or.inl ⟨q, by omega, q2⟩
theorem hsN1 {σ : Mem} {b n : Nat} {D : Nat → NL} {l : List Nat} (hS : ST σ) (hb : isB b) (hn : n ≤ 10) (e1 : gI σ b 1 = nI n) (hD : ∀ p, p < n → isN (D p).1 ∧ HN8 σ b p (D p)) (hl : isN l) (N : Nat) : ∀ p, p ≤ n → n < p + N → ∃ f : Int32, fX3_hasName_b2 N b (lN (enc 256 0 l 0)) (nI p) σ = some (f, σ) ∧ ((f = 1 ∧ ∃ q, p ≤ q ∧ q < n ∧ (D q).1 = l) ∨ (f = 0 ∧ ∀ q, p ≤ q → q < n → (D q).1 ≠ l)) := by
  induction N with
  | zero => intro p h1 h2; omega
  | succ N ih =>
    intro p h1 h2
    rw [fX3_hasName_b2, v_fIB hS hb, bs, e1]
    by_cases c : p < n
    · obtain ⟨d1, d2⟩ := hD p c
      rw [if_neg (nI_ge c (by omega)), v_kTB hS hb, bs, atP hS hb hn e1 c, b2s, if_neg (by simp), v_fJP hS hb (by omega), bs, d2.1]
      by_cases c2 : (D p).1 = l
      · rw [if_pos (by rw [c2])]
        exact ⟨1, rfl, Or.inl ⟨rfl, p, Nat.le_refl _, c, c2⟩⟩
      · rw [if_neg (fun z => c2 ((e8_i d1 hl).mp z))]
        unfold fX3_hasName_b34
        rw [bd_, nI_1]
        obtain ⟨f, f1, f2⟩ := ih (p + 1) (by omega) (by omega)
        refine ⟨f, f1, ?_⟩
        rcases f2 with ⟨a1, q, q1, q2, q3⟩ | ⟨a1, a2⟩
        · exact Or.inl ⟨a1, q, by omega, q2, q3⟩
        · refine Or.inr ⟨a1, fun q q1 q2 => ?_⟩
          by_cases e : q = p
          · subst e; exact c2
          · exact a2 q (by omega) q2
    · rw [if_pos (nI_le (by omega) (by omega))]
      exact ⟨0, rfl, Or.inr ⟨rfl, fun q q1 q2 => by omega⟩⟩
theorem hsN {σ : Mem} {b n : Nat} {D : Nat → NL} {l : List Nat} (hS : ST σ) (hb : isB b) (hn : n ≤ 10) (e1 : gI σ b 1 = nI n) (hD : ∀ p, p < n → isN (D p).1 ∧ HN8 σ b p (D p)) (hl : isN l) : fX3_hasName b (lN (enc 256 0 l 0)) σ = some (if hasN D l n = true then 1 else 0, σ) := by
  obtain ⟨f, f1, f2⟩ := hsN1 hS hb hn e1 hD hl FU 0 (by omega) (by unfold FU; omega)
  have e : fX3_hasName b (lN (enc 256 0 l 0)) σ = some (f, σ) := f1
  rw [e]
  rcases f2 with ⟨rfl, q, -, q2, q3⟩ | ⟨rfl, a2⟩
  · rw [if_pos ((hasN_i n).mpr ⟨q, q2, q3⟩)]
  · rw [if_neg (fun h => by obtain ⟨q, q1, q2⟩ := (hasN_i n).mp h; exact a2 q (Nat.zero_le _) q1 q2)]
def clr (σ : Mem) (c : Nat) : Mem := sI (sI (sI (sI (sI (sI (sJ σ c 1 0) c 2 0) c 3 0) c 4 1) c 5 0) c 6 23) c 7 0
theorem clr_F {m : Mem} {c : Nat} (h : ST m) : Fr (fun c' _ => c' = c) m (clr m c) := by
  unfold clr
  have f1 : Fr (fun c' _ => c' = c) m (sJ m c 1 0) := FrsJ h rfl
  have f2 := Fr.cI f1 (c := c) (k := 2) (v := 0) rfl
  have f3 := Fr.cI f2 (c := c) (k := 3) (v := 0) rfl
  have f4 := Fr.cI f3 (c := c) (k := 4) (v := 1) rfl
  have f5 := Fr.cI f4 (c := c) (k := 5) (v := 0) rfl
  have f6 := Fr.cI f5 (c := c) (k := 6) (v := 23) rfl
  exact Fr.cI f6 (c := c) (k := 7) (v := 0) rfl
theorem clr_v (m : Mem) (c : Nat) : gI (clr m c) c 3 = nI 0 ∧ gI (clr m c) c 4 = nI 1 ∧ gI (clr m c) c 5 = nI 0 ∧ gI (clr m c) c 6 = nI 23 ∧ gI (clr m c) c 7 = nI 0 := by
  unfold clr
  refine ⟨?_, ?_, ?_, ?_, ?_⟩
  · rw [gI_sI2 (by omega), gI_sI2 (by omega), gI_sI2 (by omega), gI_sI2 (by omega), gI_sI1]; rfl
  · rw [gI_sI2 (by omega), gI_sI2 (by omega), gI_sI2 (by omega), gI_sI1]; rfl
  · rw [gI_sI2 (by omega), gI_sI2 (by omega), gI_sI1]; rfl
  · rw [gI_sI2 (by omega), gI_sI1]; rfl
  · rw [gI_sI1]; rfl
theorem nxP {σ : Mem} {b n : Nat} (hS : ST σ) (hb : isB b) (hn : n ≤ 10) (e1 : gI σ b 1 = nI n) : fX3_nextPlan b σ = if 10 ≤ n then some (none, σ) else some (some (Pl b n), clr σ (Pl b n)) := by
  unfold fX3_nextPlan
  rw [v_fIB hS hb, bs, e1, if_neg (nI_pos (by omega)), bs, w_10]
  by_cases c : 10 ≤ n
  · rw [if_neg (nI_nlt c (by omega)), if_pos c]; rfl
  · have p : n < 10 := by omega
    rw [if_pos (nI_lt p (by decide)), if_neg c, v_RB hS hb, bs, bs, v_aE hS hb p, bs, if_neg (by simp), v_kTP hS hb p, bs]
    unfold fX2_clear
    have s1 := q_sJ hS (Pl b n) 1 0
    have s2 := q_sI s1 (Pl b n) 2 0
    have s3 := q_sI s2 (Pl b n) 3 0
    have s4 := q_sI s3 (Pl b n) 4 1
    have s5 := q_sI s4 (Pl b n) 5 0
    have s6 := q_sI s5 (Pl b n) 6 23
    rw [v_pJP hS hb p, bs, v_pIP s1 hb p, bs, v_pIP s2 hb p, bs, v_pIP s3 hb p, bs, v_pIP s4 hb p, bs, v_pIP s5 hb p, bs, v_pIP s6 hb p, bs, bs]
    rfl
theorem mFw {σ : Mem} {A w : Nat} (hS : ST σ) (hA : A ≤ 10 ∨ A = 12) (hw : w ≤ 12) (e : gI σ 3 11 = wI_ w) : fX4_mayFollow 3 (wI_ A) σ = some (bI (mayF A w), σ) := by
  unfold fX4_mayFollow
  simp only [u_fI3 hS, bs, e]
  have a12 : A = 0 ∨ A = 1 ∨ A = 2 ∨ A = 3 ∨ A = 4 ∨ A = 5 ∨ A = 6 ∨ A = 7 ∨ A = 8 ∨ A = 9 ∨ A = 10 ∨ A = 12 := by omega
  have w13 : w = 0 ∨ w = 1 ∨ w = 2 ∨ w = 3 ∨ w = 4 ∨ w = 5 ∨ w = 6 ∨ w = 7 ∨ w = 8 ∨ w = 9 ∨ w = 10 ∨ w = 11 ∨ w = 12 := by omega
  rcases a12 with rfl | rfl | rfl | rfl | rfl | rfl | rfl | rfl | rfl | rfl | rfl | rfl <;> rcases w13 with rfl | rfl | rfl | rfl | rfl | rfl | rfl | rfl | rfl | rfl | rfl | rfl | rfl <;> rfl
theorem tok_le (T : Nat → Nat) (L pos : Nat) : (tok T L pos).1 ≤ 12 := by
  rcases tok_k T L pos with ⟨-, -, k, -⟩ | ⟨-, k, -⟩ | ⟨-, k | k | k⟩
  · rcases wd_12 (tok T L pos).2.2.2.2.2 with h | h <;> omega
  all_goals omega
/-- a name -/
theorem fr_ok (l : List Nat) : okL (fresh l).2 := ⟨Nat.zero_le _, Nat.le_refl _, (by show 1 ≤ 24; decide), Nat.zero_le _, Nat.le_refl _, (by show 0 < 16; decide), fun s _ h => absurd h (by show ¬ (0 : Nat).testBit s = true; simp)⟩
theorem c_nam {σ : Mem} {b q L x y : Nat} {T : Nat → Nat} {st : PS} (hS : ST σ) (ht : tp σ L T) (hb : isB b) (hq : q ≤ L) (e7 : gI σ 3 7 = nI x) (e8 : gI σ 3 8 = nI y) (hxy : x + y = q) (hn : st.1 < 10) (hD : ∀ p, p < st.1 → isN (st.2.1 p).1 ∧ okL (st.2.1 p).2) (h1 : gR σ 3 1 = some b) (h2 : gI σ b 1 = nI st.1) (h3 : ∀ p, p < st.1 → HN8 σ b p (st.2.1 p)) (h4 : gR σ 3 2 = some (Pl b st.1)) (hz : gI σ (Pl b st.1) 3 = nI 0 ∧ gI σ (Pl b st.1) 4 = nI 1 ∧ gI σ (Pl b st.1) 5 = nI 0 ∧ gI σ (Pl b st.1) 6 = nI 23 ∧ gI σ (Pl b st.1) 7 = nI 0) : ∃ f τ, fX4_readName 3 σ = some (f, τ) ∧ Fr (pf b st.1) σ τ ∧ ((∃ kd pl, namS (tok T L q) st = .inl (.inl (kd, pl)) ∧ f = 0 ∧ gI τ 3 4 = nI kd ∧ gI τ 3 5 = nI pl) ∨ (∃ st', namS (tok T L q) st = .inr (0, (tok T L q).2.2.2.1, st') ∧ f = 1 ∧ gI τ 3 4 = gI σ 3 4 ∧ C8 τ b 0 st' ∧ INV 0 st' ∧ gI τ 3 7 = nI (tok T L q).2.2.1 ∧ gI τ 3 8 = nI ((tok T L q).2.2.2.1 - (tok T L q).2.2.1) ∧ (tok T L q).2.1 = 1)) := by
  obtain ⟨m, s1, s2, s3, s4, s5, s6, s7, s8⟩ := scn hS ht hq e7 e8 hxy
  have Sm := s2.1
  have hb4 : 4 ≤ b := by rcases hb with rfl | rfl <;> decide
  have F0 : Fr (pf b st.1) σ m := Fr.mono s2 (by intro c k h; unfold rq at h; unfold pf; omega)
  have bad (kd : Nat) : Fr (pf b st.1) σ (sI (sI m 3 4 (nI kd)) 3 5 (gI m 3 7)) := Fr.cI (Fr.cI F0 (by unfold pf; omega)) (by unfold pf; omega)
  have h45 (kd : Nat) : gI (sI (sI m 3 4 (nI kd)) 3 5 (gI m 3 7)) 3 4 = nI kd ∧ gI (sI (sI m 3 4 (nI kd)) 3 5 (gI m 3 7)) 3 5 = nI (tok T L q).2.2.1 := ⟨by rw [gI_sI2 (by omega), gI_sI1], by rw [gI_sI1]; exact s3⟩
  unfold fX4_readName
  rw [u_kT3 hS, bs, s1, bs, u_fI3 Sm, bs, s6]
  have one (hno : ¬ ((tok T L q).2.1 = 1 ∧ (tok T L q).1 = 12)) : ∃ f τ, fX4_readName_b20 3 m = some (f, τ) ∧ Fr (pf b st.1) σ τ ∧ ((∃ kd pl, namS (tok T L q) st = .inl (.inl (kd, pl)) ∧ f = 0 ∧ gI τ 3 4 = nI kd ∧ gI τ 3 5 = nI pl) ∨ (∃ st', namS (tok T L q) st = .inr (0, (tok T L q).2.2.2.1, st') ∧ f = 1 ∧ gI τ 3 4 = gI σ 3 4 ∧ C8 τ b 0 st' ∧ INV 0 st' ∧ gI τ 3 7 = nI (tok T L q).2.2.1 ∧ gI τ 3 8 = nI ((tok T L q).2.2.2.1 - (tok T L q).2.2.1) ∧ (tok T L q).2.1 = 1)) := by
    unfold fX4_readName_b20
    rw [u_kT3 Sm, bs, rfs Sm, b2s, if_pos (by decide)]
    exact ⟨0, _, rfl, bad 1, Or.inl ⟨1, _, by unfold namS; rw [if_neg hno], rfl, (h45 1).1, (h45 1).2⟩⟩
  rcases tok_k T L q with ⟨k1, kl, kw, klen⟩ | ⟨k1, -⟩ | ⟨k1, -⟩
  · rw [if_pos (show kI_ (tok T L q).2.1 = 1 by rw [k1]; rfl), u_fI3 Sm, bs, s5]
    by_cases c : (tok T L q).1 = 12
    · have nS : namS (tok T L q) st = if hasN st.2.1 (tok T L q).2.2.2.2.2 st.1 = true then .inl (.inl (3, (tok T L q).2.2.1)) else .inr (0, (tok T L q).2.2.2.1, (st.1, (fun i => if i = st.1 then fresh (tok T L q).2.2.2.2.2 else st.2.1 i), st.2.2)) := by
        unfold namS
        rw [if_pos ⟨k1, c⟩]
      rw [if_pos (show wI_ (tok T L q).1 = -1 by rw [c]; rfl), u_R3_1 Sm, bs, (s2.2 3 1 (by unfold rq; omega)).2.2, h1, u_fJ3 Sm, bs, s7 k1, v_kTB Sm hb, bs, hsN (D := st.2.1) Sm hb (by omega) ((s2.2 b 1 (by unfold rq; omega)).1.trans h2) (fun p hp => ⟨(hD p hp).1, HN8_fr s2 (by unfold rq Pl; omega) (h3 p hp)⟩) kl, b2s]
      by_cases c2 : hasN st.2.1 (tok T L q).2.2.2.2.2 st.1 = true
      · rw [if_pos c2, if_neg (by decide), u_kT3 Sm, bs, rfs Sm, b2s, if_pos (by decide)]
        exact ⟨0, _, rfl, bad 3, Or.inl ⟨3, _, by rw [nS, if_pos c2], rfl, (h45 3).1, (h45 3).2⟩⟩
      · have S1 := q_sJ Sm (Pl b st.1) 1 (lN (enc 256 0 (tok T L q).2.2.2.2.2 0))
        have nP : ¬ (3 = Pl b st.1) := by unfold Pl; omega
        have F2 : Fr (pf b st.1) σ (sI (sJ m (Pl b st.1) 1 (lN (enc 256 0 (tok T L q).2.2.2.2.2 0))) (Pl b st.1) 2 (nI ((tok T L q).2.2.2.1 - (tok T L q).2.2.1))) := Fr.cI (Fr.cJ F0 (by unfold pf; omega)) (by unfold pf; omega)
        have e32 : gR m 3 2 = some (Pl b st.1) := (s2.2 3 2 (by unfold rq; omega)).2.2.trans h4
        rw [if_neg c2, if_pos rfl, u_R3_2 Sm, bs, e32, if_neg (by simp), bs, u_fJ3 Sm, bs, s7 k1, v_pJP Sm hb hn, bs, u_R3_2 S1, bs, gR_sJ, e32, u_fI3 S1, bs, gI_sJ, s4, v_pIP S1 hb hn, bs]
        refine ⟨1, _, rfl, F2, Or.inr ⟨_, by rw [nS, if_neg c2], rfl, ?_, ?_, ?_, ?_, ?_, k1⟩⟩
        · rw [gI_sI2 (by omega), gI_sJ]; exact (s2.2 3 4 (by unfold rq; omega)).1
        · have gz (k : Nat) (hk : 3 ≤ k) : gI (sI (sJ m (Pl b st.1) 1 (lN (enc 256 0 (tok T L q).2.2.2.2.2 0))) (Pl b st.1) 2 (nI ((tok T L q).2.2.2.1 - (tok T L q).2.2.1))) (Pl b st.1) k = gI σ (Pl b st.1) k := by
            rw [gI_sI2 (by omega), gI_sJ]
            exact (s2.2 _ k (by unfold rq; omega)).1
          refine ⟨(F2.2 3 1 (by unfold pf Pl; omega)).2.2.trans h1, (F2.2 b 1 (by unfold pf Pl; omega)).1.trans h2, fun p hp => ?_, fun _ => ⟨e32, ?_⟩, fun h => absurd h (by decide)⟩
          · have hp : p < st.1 := hp
            show HN8 _ b p (if p = st.1 then _ else st.2.1 p)
            rw [if_neg (by omega)]
            exact HN8_fr F2 (by unfold pf Pl; omega) (h3 p hp)
          · show HN8 _ b st.1 (if st.1 = st.1 then fresh (tok T L q).2.2.2.2.2 else st.2.1 st.1)
            rw [if_pos rfl]
            exact ⟨by rw [rdJI, gJ_sJ1]; rfl, by rw [gI_sI1, ← klen]; rfl, (gz 3 (by decide)).trans hz.1, (gz 4 (by decide)).trans hz.2.1, (gz 5 (by decide)).trans hz.2.2.1, (gz 6 (by decide)).trans hz.2.2.2.1, (gz 7 (by decide)).trans hz.2.2.2.2, fun s s1 s2 => by exact absurd s2 (by show ¬ (0 : Nat).testBit s = true; simp)⟩
        · have ed : (if st.1 = st.1 then fresh (tok T L q).2.2.2.2.2 else st.2.1 st.1) = fresh (tok T L q).2.2.2.2.2 := if_pos rfl
          refine ⟨Nat.le_of_lt hn, fun p hp => ?_, fun _ => ⟨hn, ?_, ?_⟩, fun h => absurd h (by decide), fun h => absurd h (by decide), fun _ => ?_⟩
          · have hp : p < st.1 := hp
            show isN (if p = st.1 then fresh (tok T L q).2.2.2.2.2 else st.2.1 p).1 ∧ okL (if p = st.1 then fresh (tok T L q).2.2.2.2.2 else st.2.1 p).2
            rw [if_neg (by omega)]
            exact hD p hp
          · show isN (if st.1 = st.1 then fresh (tok T L q).2.2.2.2.2 else st.2.1 st.1).1
            rw [ed]
            exact kl
          · show okL (if st.1 = st.1 then fresh (tok T L q).2.2.2.2.2 else st.2.1 st.1).2
            rw [ed]
            exact fr_ok _
          · show (if st.1 = st.1 then fresh (tok T L q).2.2.2.2.2 else st.2.1 st.1).2.2.2.2.1 = 23
            rw [ed]
            rfl
        · rw [gI_sI2 (by omega), gI_sJ]; exact s3
        · rw [gI_sI2 (by omega), gI_sJ]; exact s4
    · rw [if_neg (show ¬ wI_ (tok T L q).1 = -1 by
        have := tok_le T L q
        unfold wI_
        rw [if_neg c, w_1, m1_ne (by omega)]
        exact id)]
      exact one (fun z => c z.2)
  · rw [if_neg (by rw [k1]; decide)]
    exact one (fun z => by omega)
  · rw [if_neg (by rw [k1]; decide)]
    exact one (fun z => by omega)
/-- a number -/
theorem c_num {σ : Mem} {b q L x y A w : Nat} {T : Nat → Nat} {st : PS} (hS : ST σ) (ht : tp σ L T) (hb : isB b) (hq : q ≤ L) (e7 : gI σ 3 7 = nI x) (e8 : gI σ 3 8 = nI y) (hxy : x + y = q) (hI : INV A st) (hC : C8 σ b A st) (hA : A ≤ 9) (hw : 1 ≤ w) (hw9 : w ≤ 9) (hf : mayF A w = true) (h3 : w = 7 → (cT st).2.1 < 3) : ∃ f τ, fX4_readNumber 3 (nI w) σ = some (f, τ) ∧ Fr (fr8 b) σ τ ∧ ((∃ kd pl, numS w (tok T L q) st = .inl (.inl (kd, pl)) ∧ f = 0 ∧ gI τ 3 4 = nI kd ∧ gI τ 3 5 = nI pl) ∨ (∃ st', numS w (tok T L q) st = .inr (w, (tok T L q).2.2.2.1, st') ∧ f = 1 ∧ gI τ 3 4 = gI σ 3 4 ∧ C8 τ b w st' ∧ INV w st' ∧ gI τ 3 7 = nI (tok T L q).2.2.1 ∧ gI τ 3 8 = nI ((tok T L q).2.2.2.1 - (tok T L q).2.2.1) ∧ (tok T L q).2.1 = 2)) := by
  obtain ⟨m, s1, s2, s3, s4, s5, s6, s7, s8⟩ := scn hS ht hq e7 e8 hxy
  have Sm := s2.1
  have hCm := C8_rq hb s2 hC
  have j1 := (hI.2.2.1 hA).1
  have F0 : Fr (fr8 b) σ m := Fr.mono s2 (by intro c k h; exact rq_8 h)
  have bad (kd : Nat) : Fr (fr8 b) σ (sI (sI m 3 4 (nI kd)) 3 5 (gI m 3 7)) := Fr.cI (Fr.cI F0 (by unfold fr8; omega)) (by unfold fr8; omega)
  have h45 (kd : Nat) : gI (sI (sI m 3 4 (nI kd)) 3 5 (gI m 3 7)) 3 4 = nI kd ∧ gI (sI (sI m 3 4 (nI kd)) 3 5 (gI m 3 7)) 3 5 = nI (tok T L q).2.2.1 := ⟨by rw [gI_sI2 (by omega), gI_sI1], by rw [gI_sI1]; exact s3⟩
  have hhi := hi_b w
  unfold fX4_readNumber
  rw [u_kT3 hS, bs, s1, bs, u_fI3 Sm, bs, s6]
  unfold numS
  rcases tok_k T L q with ⟨k1, -⟩ | ⟨k1, -, kv⟩ | ⟨k1, -⟩
  · rw [if_neg (by rw [k1]; decide), if_neg (by omega), u_kT3 Sm, bs, rfs Sm, b2s, if_pos (by decide)]
    exact ⟨0, _, rfl, bad 1, Or.inl ⟨1, _, rfl, rfl, (h45 1).1, (h45 1).2⟩⟩
  · have lob : lo_ w st < 2 ^ 31 := by
      obtain ⟨-, -, j3⟩ := hI.2.2.1 hA
      unfold lo_
      split
      · decide
      · split
        · have := j3.2.2.2.1; have := j3.2.2.2.2.1; omega
        · split
          · rename_i c7
            obtain ⟨q1, q2⟩ := hI.2.2.2.1 (by have := (mF_x (by omega) hf).2.2.2.2.2.2.1 c7; omega) hA
            have q3 := j3.2.2.2.2.2.2 _ q1 q2
            split
            · decide
            · have := (q3.2.2.1 ((cT st).2.1 - 1) (by show (cT st).2.1 - 1 < (cT st).2.1; omega)).2.1
              have : (cT st).2.2.1 ((cT st).2.1 - 1) ≤ 20000 := this
              omega
          · decide
    rw [if_pos (show kI_ (tok T L q).2.1 = 2 by rw [k1]; rfl), if_pos k1, u_fI3 Sm, bs, s8 k1, u_kT3 Sm, bs, lsB Sm hb hI hCm hA hw hw9 hf, b2s, gsB hw hw9, b2s, iwN (by omega) lob (by omega), b2s]
    by_cases c : lo_ w st ≤ (tok T L q).2.2.2.2.1 ∧ (tok T L q).2.2.2.2.1 ≤ hi_ w
    · rw [if_pos c, if_neg (by decide), if_pos c]
      have go (h5 : w = 5 → (cP st).2.2.2.2.1.testBit (tok T L q).2.2.2.2.1 = false) : ∃ f τ, fX4_readNumber_b75 3 (nI w) m = some (f, τ) ∧ Fr (fr8 b) σ τ ∧ (∃ st', (.inr (w, (tok T L q).2.2.2.1, put_ w (tok T L q).2.2.2.2.1 st) : Sum FR (Nat × Nat × PS)) = .inr (w, (tok T L q).2.2.2.1, st') ∧ f = 1 ∧ gI τ 3 4 = gI σ 3 4 ∧ C8 τ b w st' ∧ INV w st' ∧ gI τ 3 7 = nI (tok T L q).2.2.1 ∧ gI τ 3 8 = nI ((tok T L q).2.2.2.1 - (tok T L q).2.2.1) ∧ (tok T L q).2.1 = 2) := by
        obtain ⟨τ, t1, t2, t3, t4⟩ := b75 (v := (tok T L q).2.2.2.2.1) Sm hb hI hCm hA hw hw9 hf h3 (s8 k1) c.2
        exact ⟨1, τ, t1, Fr.tr F0 (Fr.mono t2 (by intro c k h; exact pf_8 j1 h)), _, rfl, rfl, (t4 4 (by decide)).trans (s2.2 3 4 (by unfold rq; omega)).1, t3, put_ok hI hA hw hw9 hf h3 c.1 c.2 h5, (t4 7 (by decide)).trans s3, (t4 8 (by decide)).trans s4, k1⟩
      by_cases c5 : w = 5
      · subst c5
        have v4 : (tok T L q).2.2.2.2.1 < 4 := by have := c.2; rw [hi_5] at this; omega
        obtain ⟨k2, n1, n2, n3⟩ := hCm.2.2.2.1 hA
        have j3 := (hI.2.2.1 hA).2.2
        rw [if_pos (by decide), u_R3_2 Sm, bs, k2, if_neg (by simp), bs, u_fI3 Sm, bs, s8 k1, v_kTP Sm hb j1, bs, pFor Sm hb j1 v4 j3 n3, b2s]
        by_cases ct : (cP st).2.2.2.2.1.testBit (tok T L q).2.2.2.2.1 = true
        · rw [if_pos ct, if_neg (by simp), u_kT3 Sm, bs, rfs Sm, b2s, if_pos (by decide), if_pos ⟨rfl, ct⟩]
          exact ⟨0, _, rfl, bad 3, Or.inl ⟨3, _, rfl, rfl, (h45 3).1, (h45 3).2⟩⟩
        · rw [if_neg ct, if_pos rfl, if_neg (fun z => ct z.2)]
          obtain ⟨f, τ, g1, g2, g3⟩ := go (fun _ => by simpa using ct)
          exact ⟨f, τ, g1, g2, Or.inr g3⟩
      · rw [if_neg (by rw [w_5, nI_eq (by omega) (by decide)]; exact c5), if_neg (fun z => c5 z.1)]
        obtain ⟨f, τ, g1, g2, g3⟩ := go (fun z => absurd z c5)
        exact ⟨f, τ, g1, g2, Or.inr g3⟩
    · rw [if_neg c, if_pos rfl, u_kT3 Sm, bs, rfs Sm, b2s, if_pos (by decide), if_neg c]
      exact ⟨0, _, rfl, bad 2, Or.inl ⟨2, _, rfl, rfl, (h45 2).1, (h45 2).2⟩⟩
  · rw [if_neg (by rw [k1]; decide), if_neg (by omega), u_kT3 Sm, bs, rfs Sm, b2s, if_pos (by decide)]
    exact ⟨0, _, rfl, bad 1, Or.inl ⟨1, _, rfl, rfl, (h45 1).1, (h45 1).2⟩⟩
/-- the loop -/
def RES8 (σ τ : Mem) (b : Nat) (r : FR) (f : Int32) : Prop := match r with
  | .inl (kd, pl) => f = 0 ∧ gI τ 3 4 = nI kd ∧ gI τ 3 5 = nI pl ∧ kd ≤ 4 ∧ pl ≤ 800
  | .inr st' => f = 1 ∧ gI τ 3 4 = gI σ 3 4 ∧ C8 τ b 10 st' ∧ INV 10 st'
theorem kd_num {w : Nat} {u : TK} {st : PS} {kd pl : Nat} (h : numS w u st = .inl (.inl (kd, pl))) : kd ≤ 4 ∧ pl = u.2.2.1 := by
  unfold numS at h
  repeat' split at h
  all_goals first | (cases h; exact ⟨by decide, rfl⟩) | cases h
theorem kd_nam {u : TK} {st : PS} {kd pl : Nat} (h : namS u st = .inl (.inl (kd, pl))) : kd ≤ 4 ∧ pl = u.2.2.1 := by
  unfold namS at h
  repeat' split at h
  all_goals first | (cases h; exact ⟨by decide, rfl⟩) | cases h
theorem rT27 {b L : Nat} {T : Nat → Nat} (hb : isB b) (n : Nat) : ∀ A pos st t N σ x y, n + t = 801 → ST σ → tp σ L T → C8 σ b A st → INV A st → (A ≤ 10 ∨ A = 12) → gI σ 3 7 = nI x → gI σ 3 8 = nI y → x + y = pos → pos ≤ L → t ≤ pos → t ≤ 800 → n < N → ∃ f τ r, fX4_readText_b27 N 3 (wI_ A) (nI t) σ = some (f, τ) ∧ iterP T L n A pos st = some r ∧ Fr (fr8 b) σ τ ∧ RES8 σ τ b r f := by
  have hb4 : 4 ≤ b := by rcases hb with rfl | rfl <;> decide
  induction n with
  | zero => intro A pos st t N σ x y h1 _ _ _ _ _ _ _ _ _ _ h2; omega
  | succ n ih =>
    intro A pos st t N σ x y hnt hS ht hC hI hA e7 e8 hxy hp htp ht8 hN
    obtain ⟨N, rfl⟩ : ∃ M, N = M + 1 := ⟨N - 1, by omega⟩
    have hL := ht.1
    obtain ⟨m, s1, s2, s3, s4, s5, s6, s7, s8⟩ := scn hS ht hp e7 e8 hxy
    have Sm := s2.1
    have hCm := C8_rq hb s2 hC
    have htm := tp_fr s2 (by unfold rq; omega) (by unfold rq; omega) ht
    have F0 : Fr (fr8 b) σ m := Fr.mono s2 (by intro c k h; exact rq_8 h)
    have ip : iterP T L (n + 1) A pos st = match stepP T L A pos st with
      | .inl r => some r
      | .inr (A', pos', st') => iterP T L n A' pos' st' := rfl
    have g4 : gI m 3 4 = gI σ 3 4 := (s2.2 3 4 (by unfold rq; omega)).1
    obtain ⟨tf1, tf2, tf3⟩ := tok_f (T := T) hL hp
    have bad (kd : Nat) (hk : kd ≤ 4) (hs : stepP T L A pos st = .inl (.inl (kd, (tok T L pos).2.2.1))) : ∃ τ r, (b2 (fX4_refuse 3 (nI kd) m) fun t17 m18 => if t17 = 0 ∨ t17 = 1 then some (t17, m18) else none) = some ((0 : Int32), τ) ∧ iterP T L (n + 1) A pos st = some r ∧ Fr (fr8 b) σ τ ∧ RES8 σ τ b r 0 := by
      refine ⟨_, .inl (kd, (tok T L pos).2.2.1), by rw [rfs Sm, b2s, if_pos (by decide)], by rw [ip, hs], Fr.cI (Fr.cI F0 (by unfold fr8; omega)) (by unfold fr8; omega), rfl, by rw [gI_sI2 (by omega), gI_sI1], by rw [gI_sI1]; exact s3, hk, tf1⟩
    rw [fX4_readText_b27, w_800, if_neg (nI_nlt ht8 (by decide)), u_kT3 hS, bs, s1, bs, u_kT3 Sm, bs, mFw Sm hA (tok_le T L pos) s5, b2s]
    have wl := tok_le T L pos
    cases hm : mayF A (tok T L pos).1 with
    | false =>
      have hs : stepP T L A pos st = .inl (.inl (1, (tok T L pos).2.2.1)) := by unfold stepP; rw [if_pos hm]
      obtain ⟨τ, r, b1, b2', b3, b4⟩ := bad 1 (by decide) hs
      rw [if_pos (show bI false = 0 from rfl), u_kT3 Sm, bs]
      exact ⟨0, τ, r, b1, b2', b3, b4⟩
    | true =>
      obtain ⟨-, -, -, -, -, -, -, -, -, mx10, mx0, mx11, mx12⟩ := mF_x (by omega) hm
      rw [if_neg (show ¬ bI true = 0 by decide), u_fI3 Sm, bs, s5]
      have nw (k : Nat) (hk : k < 12) : (wI_ (tok T L pos).1 = nI k) ↔ (tok T L pos).1 = k := by
        unfold wI_
        rw [if_neg mx12, nI_eq (by omega) (by omega)]
      have n11 : (wI_ (tok T L pos).1 = (11 : Int32)) ↔ (tok T L pos).1 = 11 := nw 11 (by decide)
      have n10 : (wI_ (tok T L pos).1 = (10 : Int32)) ↔ (tok T L pos).1 = 10 := nw 10 (by decide)
      have n7 : (wI_ (tok T L pos).1 = (7 : Int32)) ↔ (tok T L pos).1 = 7 := nw 7 (by decide)
      have n0 : (wI_ (tok T L pos).1 = (0 : Int32)) ↔ (tok T L pos).1 = 0 := nw 0 (by decide)
      by_cases c11 : (tok T L pos).1 = 11
      · have hA10 := mx11 c11
        subst hA10
        have hs : stepP T L 10 pos st = .inl (.inr st) := by unfold stepP; rw [if_neg (by rw [hm]; decide), if_pos c11]
        rw [if_pos (n11.mpr c11)]
        exact ⟨1, m, .inr st, rfl, by rw [ip, hs], F0, rfl, g4, hCm, hI⟩
      · rw [if_neg (fun z => c11 (n11.mp z)), bs, u_kT3 Sm, bs]
        obtain ⟨tg1, tg2, tg3, tg4⟩ := tf3 (Or.inl ⟨mx12, c11⟩)
        have ew : wI_ (tok T L pos).1 = nI (tok T L pos).1 := by unfold wI_; rw [if_neg mx12]
        -- what follows a pair
        have nxt (A' pos' : Nat) (st' : PS) (τ : Mem) (x' y' : Nat) (hs : stepP T L A pos st = .inr (A', pos', st')) (hA' : A' = (tok T L pos).1) (F : Fr (fr8 b) σ τ) (k4 : gI τ 3 4 = gI σ 3 4) (hC' : C8 τ b A' st') (hI' : INV A' st') (k7 : gI τ 3 7 = nI x') (k8 : gI τ 3 8 = nI y') (hx : x' + y' = pos') (hp1 : (tok T L pos).2.2.1 < pos') (hp2 : pos' ≤ L) : ∃ f τ' r, (if (1 : Int32) = 0 then some ((0 : Int32), τ) else bd (nI t + 1) fun t15 => fX4_readText_b27 N 3 (wI_ (tok T L pos).1) t15 τ) = some (f, τ') ∧ iterP T L (n + 1) A pos st = some r ∧ Fr (fr8 b) σ τ' ∧ RES8 σ τ' b r f := by
          have htτ : tp τ L T := tp_fr F (by unfold fr8; omega) (by unfold fr8; omega) ht
          obtain ⟨f, υ, r, u1, u2, u3, u4⟩ := ih A' pos' st' (t + 1) N τ x' y' (by omega) F.1 htτ hC' hI' (by rw [hA']; omega) k7 k8 hx hp2 (by omega) (by omega) (by omega)
          refine ⟨f, υ, r, ?_, by rw [ip, hs]; exact u2, Fr.tr F u3, ?_⟩
          · rw [if_neg (by decide), bd_, nI_1, ← hA']
            exact u1
          · cases r with
            | inl z => exact u4
            | inr z => exact ⟨u4.1, u4.2.1.trans k4, u4.2.2⟩
        unfold fX4_readPair
        rw [u_fI3 Sm, bs, s5]
        by_cases c10 : (tok T L pos).1 = 10
        · have hA9 : A ≤ 9 := by have := mx10 c10; omega
          obtain ⟨j1, j2, j3⟩ := hI.2.2.1 hA9
          have hs : stepP T L A pos st = .inr (10, (tok T L pos).2.2.2.1, (st.1 + 1, st.2.1, st.2.2)) := by unfold stepP; rw [if_neg (by rw [hm]; decide), if_neg c11, if_pos c10]
          obtain ⟨a1, a2, a3, a4, -⟩ := hCm
          obtain ⟨k1, k2⟩ := a4 hA9
          have F1 : Fr (fun c k => c = b ∧ k = 1) m (sI m b 1 (nI (st.1 + 1))) := Fr.cI (Fr.refl Sm) (by omega)
          have F : Fr (fr8 b) σ (sI m b 1 (nI (st.1 + 1))) := Fr.tr F0 (Fr.mono F1 (by intro c k h; unfold fr8; omega))
          rw [if_pos (n10.mpr c10), u_R3_1 Sm, bs, a1, v_fIB Sm hb, bs, a2, v_pIB Sm hb, bs, b2s, nI_1]
          refine nxt 10 (tok T L pos).2.2.2.1 (st.1 + 1, st.2.1, st.2.2) _ (tok T L pos).2.2.1 ((tok T L pos).2.2.2.1 - (tok T L pos).2.2.1) hs c10.symm F (by rw [gI_sI2 (by omega)]; exact g4) ⟨a1, gI_sI1, fun p hp => ?_, fun h => absurd h (by decide), fun _ h => absurd h (by decide)⟩ ⟨by show st.1 + 1 ≤ 10; omega, fun p hp => ?_, fun h => absurd h (by decide), fun _ h => absurd h (by decide), fun h => absurd h (by decide), fun h => absurd h (by decide)⟩ (by rw [gI_sI2 (by omega)]; exact s3) (by rw [gI_sI2 (by omega)]; exact s4) (by omega) tg3 tg4
          · have hp : p < st.1 + 1 := hp
            show HN8 _ b p (st.2.1 p)
            by_cases e : p = st.1
            · subst e; exact HN8_fr F1 (by unfold Pl; omega) k2
            · exact HN8_fr F1 (by unfold Pl; omega) (a3 p (by omega))
          · have hp : p < st.1 + 1 := hp
            show isN (st.2.1 p).1 ∧ okL (st.2.1 p).2
            by_cases e : p = st.1
            · subst e; exact ⟨j2, j3⟩
            · exact hI.2.1 p (by omega)
        · rw [if_neg (fun z => c10 (n10.mp z)), bs]
          by_cases c0 : (tok T L pos).1 = 0
          · have hA10 := mx0 c0
            obtain ⟨a1, a2, a3, -, -⟩ := hCm
            have hn10 := hI.1
            rw [if_pos (n0.mpr c0), u_R3_1 Sm, bs, a1, v_kTB Sm hb, bs, nxP Sm hb hn10 a2]
            have hs0 : stepP T L A pos st = if 10 ≤ st.1 then .inl (.inl (4, (tok T L pos).2.2.1)) else namS (tok T L (tok T L pos).2.2.2.1) st := by unfold stepP; rw [if_neg (by rw [hm]; decide), if_neg c11, if_neg c10, if_pos c0]
            by_cases cn : 10 ≤ st.1
            · rw [if_pos cn] at hs0
              have S3 := u_S3_2 (x := none) Sm
              have F3 : Fr (fr8 b) σ (sR m 3 2 none) := Fr.tr F0 (FrsR S3 (by unfold fr8; omega))
              rw [if_pos cn, b2s, u_P3_2 Sm, bs, u_R3_2 S3, bs, gR_sR1, if_pos rfl, u_kT3 S3, bs, rfs S3, b2s]
              unfold fX4_readPair_b61
              rw [if_pos (by decide), b2s, if_pos rfl]
              exact ⟨0, _, .inl (4, (tok T L pos).2.2.1), rfl, by rw [ip, hs0], Fr.cI (Fr.cI F3 (by unfold fr8; omega)) (by unfold fr8; omega), rfl, by rw [gI_sI2 (by omega), gI_sI1]; rfl, by rw [gI_sI1, gI_sR]; exact s3, by decide, tf1⟩
            · rw [if_neg cn] at hs0
              have hn : st.1 < 10 := by omega
              have nP : ¬ (3 = Pl b st.1) := by unfold Pl; omega
              have Fc : Fr (fun c _ => c = Pl b st.1) m (clr m (Pl b st.1)) := clr_F Sm
              have S3 := u_S3_2 (x := some (Pl b st.1)) Fc.1
              have F3 : Fr (fr8 b) σ (sR (clr m (Pl b st.1)) 3 2 (some (Pl b st.1))) := Fr.tr (Fr.tr F0 (Fr.mono Fc (by intro c k h; unfold fr8; unfold Pl at h; omega))) (FrsR S3 (by unfold fr8; omega))
              have Fm3 : Fr (fun c k => c = Pl b st.1 ∨ (c = 3 ∧ k = 2)) m (sR (clr m (Pl b st.1)) 3 2 (some (Pl b st.1))) := Fr.tr (Fr.mono Fc (by intro c k h; omega)) (FrsR S3 (by omega))
              rw [if_neg cn, b2s, u_P3_2 Fc.1, bs, u_R3_2 S3, bs, gR_sR1, if_neg (by simp), u_kT3 S3, bs]
              obtain ⟨f, τ, c1, c2, c3⟩ := c_nam (st := st) (q := (tok T L pos).2.2.2.1) S3 (tp_fr F3 (by unfold fr8; omega) (by unfold fr8; omega) ht) hb tg4 ((Fm3.2 3 7 (by omega)).1.trans s3) ((Fm3.2 3 8 (by omega)).1.trans s4) (by omega) hn hI.2.1 ((Fm3.2 3 1 (by omega)).2.2.trans a1) ((Fm3.2 b 1 (by unfold Pl; omega)).1.trans a2) (fun p hp => HN8_fr Fm3 (by unfold Pl; omega) (a3 p hp)) gR_sR1 (by rw [gI_sR]; exact clr_v m _)
              have F4 : Fr (fr8 b) σ τ := Fr.tr F3 (Fr.mono c2 (by intro c k h; exact pf_8 hn h))
              rw [c1, b2s]
              unfold fX4_readPair_b61
              obtain ⟨uf1, uf2, uf3⟩ := tok_f (T := T) hL tg4
              rcases c3 with ⟨kd, pl, d1, rfl, d3, d4⟩ | ⟨st', d1, rfl, d3, d4, d5, d6, d7, d8⟩
              · rw [if_pos (by decide), b2s, if_pos rfl]
                obtain ⟨q1, q2⟩ := kd_nam d1
                exact ⟨0, τ, .inl (kd, pl), rfl, by rw [ip, hs0, d1], F4, rfl, d3, d4, q1, by rw [q2]; exact uf1⟩
              · rw [if_pos (by decide), b2s]
                obtain ⟨ug1, ug2, ug3, ug4⟩ := uf3 (Or.inr (by omega))
                exact nxt 0 _ st' τ _ _ (by rw [hs0, d1]) c0.symm F4 (d3.trans ((Fm3.2 3 4 (by omega)).1.trans g4)) d4 d5 d6 d7 (by omega) (by omega) ug4
          · have w1 : 1 ≤ (tok T L pos).1 := by omega
            have w9 : (tok T L pos).1 ≤ 9 := by omega
            have hA9 : A ≤ 9 := by
              obtain ⟨m1, m2, m3, m4, m5, m6, m7, m8, m9, -⟩ := mF_x (by omega) hm
              omega
            rw [if_neg (fun z => c0 (n0.mp z)), bs]
            have fin (h7 : ¬ ((tok T L pos).1 = 7 ∧ 3 ≤ (cT st).2.1)) : ∃ f τ r, (b2 (fX4_readPair_b95 3 m) fun t12 m13 => if t12 = 0 then some ((0 : Int32), m13) else bd (nI t + 1) fun t15 => fX4_readText_b27 N 3 (wI_ (tok T L pos).1) t15 m13) = some (f, τ) ∧ iterP T L (n + 1) A pos st = some r ∧ Fr (fr8 b) σ τ ∧ RES8 σ τ b r f := by
              have hs0 : stepP T L A pos st = numS (tok T L pos).1 (tok T L (tok T L pos).2.2.2.1) st := by unfold stepP; rw [if_neg (by rw [hm]; decide), if_neg c11, if_neg c10, if_neg c0, if_neg h7]
              obtain ⟨f, τ, c1, c2, c3⟩ := c_num (st := st) (q := (tok T L pos).2.2.2.1) (A := A) Sm htm hb tg4 s3 s4 (by omega) hI hCm hA9 w1 w9 hm (fun z => by omega)
              have F4 : Fr (fr8 b) σ τ := Fr.tr F0 c2
              obtain ⟨uf1, uf2, uf3⟩ := tok_f (T := T) hL tg4
              unfold fX4_readPair_b95
              rw [u_fI3 Sm, bs, s5, ew, u_kT3 Sm, bs, c1, b2s]
              rcases c3 with ⟨kd, pl, d1, rfl, d3, d4⟩ | ⟨st', d1, rfl, d3, d4, d5, d6, d7, d8⟩
              · rw [if_pos (by decide), b2s, if_pos rfl]
                obtain ⟨q1, q2⟩ := kd_num d1
                exact ⟨0, τ, .inl (kd, pl), rfl, by rw [ip, hs0, d1], F4, rfl, d3, d4, q1, by rw [q2]; exact uf1⟩
              · rw [if_pos (by decide), b2s, ← ew]
                obtain ⟨ug1, ug2, ug3, ug4⟩ := uf3 (Or.inr (by omega))
                exact nxt _ _ st' τ _ _ (by rw [hs0, d1]) rfl F4 (d3.trans g4) d4 d5 d6 d7 (by omega) (by omega) ug4
            by_cases c7 : (tok T L pos).1 = 7
            · rw [if_pos (n7.mpr c7)]
              have hA5 : 5 ≤ A := by have := (mF_x (by omega) hm).2.2.2.2.2.2.1 c7; omega
              obtain ⟨q1, q2⟩ := hI.2.2.2.1 hA5 hA9
              obtain ⟨j1, j2, j3⟩ := hI.2.2.1 hA9
              have k3 := hCm.2.2.2.2 hA5 hA9
              have hp3 : gI m (Pt b st.1 st.2.2) 3 = nI (cT st).2.1 := ((hCm.2.2.2.1 hA9).2.2.2.2.2.2.2.2 _ q1 q2).2.1
              have q3 : (cT st).2.1 ≤ 3 := (j3.2.2.2.2.2.2 _ q1 q2).2.1
              rw [u_R3_3 Sm, bs, k3, if_neg (by simp), bs, v_fIT Sm hb j1 q1, bs, hp3, w_3]
              by_cases c3 : (cT st).2.1 < 3
              · rw [if_pos (nI_lt c3 (by decide))]
                exact fin (fun z => by omega)
              · have hs : stepP T L A pos st = .inl (.inl (4, (tok T L pos).2.2.1)) := by unfold stepP; rw [if_neg (by rw [hm]; decide), if_neg c11, if_neg c10, if_neg c0, if_pos ⟨c7, by omega⟩]
                obtain ⟨τ, r, b1, b2', b3, b4⟩ := bad 4 (by decide) hs
                have b1 : (b2 (fX4_refuse 3 4 m) fun t17 m18 => if t17 = 0 ∨ t17 = 1 then some (t17, m18) else none) = some ((0 : Int32), τ) := b1
                rw [if_neg (nI_nlt (by omega) (by omega)), u_kT3 Sm, bs, b1, b2s, if_pos rfl]
                exact ⟨0, τ, r, rfl, b2', b3, b4⟩
            · rw [if_neg (fun z => c7 (n7.mp z))]
              exact fin (fun z => c7 z.1)
