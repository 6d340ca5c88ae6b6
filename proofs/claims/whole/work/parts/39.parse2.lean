/-! the class's reader: its steps -/
def HN8 (σ : Mem) (b p : Nat) (d : NL) : Prop := gJ σ (Pl b p) 1 = lN (enc 256 0 d.1 0) ∧ gI σ (Pl b p) 2 = nI d.1.length ∧ HL8 σ b p d.2
def C8 (σ : Mem) (b A : Nat) (st : PS) : Prop := gR σ 3 1 = some b ∧ gI σ b 1 = nI st.1 ∧ (∀ p, p < st.1 → HN8 σ b p (st.2.1 p)) ∧ (A ≤ 9 → gR σ 3 2 = some (Pl b st.1) ∧ HN8 σ b st.1 (st.2.1 st.1)) ∧ (5 ≤ A → A ≤ 9 → gR σ 3 3 = some (Pt b st.1 st.2.2))
def pf (b n c k : Nat) : Prop := (c = 3 ∧ 3 ≤ k ∧ k ≤ 11) ∨ (Pl b n ≤ c ∧ c < Pl b n + 14)
def fr8 (b c k : Nat) : Prop := (c = 3 ∧ 2 ≤ k ∧ k ≤ 11) ∨ (b ≤ c ∧ c < b + 142)
theorem pf_8 {b n c k : Nat} (hn : n < 10) (h : pf b n c k) : fr8 b c k := by
  unfold pf Pl at h
  unfold fr8
  omega
theorem rq_8 {b c k : Nat} (h : rq c k) : fr8 b c k := by unfold rq at h; unfold fr8; omega
theorem HP_o {σ τ : Mem} {q : Nat} {d : PD} (h : ∀ j, j < 3 → gI τ (q + j) = gI σ (q + j)) (hp : HP σ q d) : HP τ q d := by
  unfold HP at hp ⊢
  have h0 := h 0 (by decide)
  rw [Nat.add_zero] at h0
  rw [h0, h 1 (by decide), h 2 (by decide)]
  exact hp
theorem HN8_fr {q : Nat → Nat → Prop} {σ τ : Mem} {b p : Nat} {d : NL} (F : Fr q σ τ) (hq : ∀ c k, Pl b p ≤ c → c < Pl b p + 14 → ¬ q c k) (h : HN8 σ b p d) : HN8 τ b p d := by
  obtain ⟨h1, h2, h3⟩ := h
  have e0 : gI τ (Pl b p) = gI σ (Pl b p) := F.eI (fun k => hq _ k (Nat.le_refl _) (by omega))
  refine ⟨(F.2 _ 1 (hq _ 1 (Nat.le_refl _) (by omega))).2.1.trans h1, by rw [e0]; exact h2, ?_⟩
  unfold HL8 at h3 ⊢
  rw [e0]
  exact ⟨h3.1, h3.2.1, h3.2.2.1, h3.2.2.2.1, h3.2.2.2.2.1, fun s s1 s2 => HP_o (fun j hj => F.eI (fun k => hq _ k (by unfold Pt Pl; omega) (by unfold Pt Pl; omega))) (h3.2.2.2.2.2 s s1 s2)⟩
theorem C8_rq {σ τ : Mem} {b A : Nat} {st : PS} (hb : isB b) (F : Fr rq σ τ) (h : C8 σ b A st) : C8 τ b A st := by
  obtain ⟨h1, h2, h3, h4, h5⟩ := h
  have hb4 : 4 ≤ b := by rcases hb with rfl | rfl <;> decide
  refine ⟨(F.2 3 1 (by unfold rq; omega)).2.2.trans h1, (F.2 b 1 (by unfold rq; omega)).1.trans h2, fun p hp => HN8_fr F (by unfold rq Pl; omega) (h3 p hp), fun hA => ⟨(F.2 3 2 (by unfold rq; omega)).2.2.trans (h4 hA).1, HN8_fr F (by unfold rq Pl; omega) (h4 hA).2⟩, fun a1 a2 => (F.2 3 3 (by unfold rq; omega)).2.2.trans (h5 a1 a2)⟩
theorem C8_mk {σ τ : Mem} {b A w : Nat} {st : PS} {D' : Nat → NL} {cur' : Nat} (hb : isB b) (hA : A ≤ 9) (F : Fr (pf b st.1) σ τ) (hC : C8 σ b A st) (hD : ∀ p, p < st.1 → D' p = st.2.1 p) (hN : HN8 τ b st.1 (D' st.1)) (h3' : 5 ≤ w → w ≤ 9 → gR τ 3 3 = some (Pt b st.1 cur')) : C8 τ b w (st.1, D', cur') := by
  obtain ⟨h1, h2, h3, h4, h5⟩ := hC
  have hb4 : 4 ≤ b := by rcases hb with rfl | rfl <;> decide
  refine ⟨(F.2 3 1 (by unfold pf Pl; omega)).2.2.trans h1, (F.2 b 1 (by unfold pf Pl; omega)).1.trans h2, fun p hp => ?_, fun _ => ⟨(F.2 3 2 (by unfold pf Pl; omega)).2.2.trans (h4 hA).1, hN⟩, h3'⟩
  have hp : p < st.1 := hp
  show HN8 τ b p (D' p)
  rw [hD p hp]
  exact HN8_fr F (by unfold pf Pl; omega) (h3 p hp)
theorem rfs {σ : Mem} (hS : ST σ) (x : Int32) : fX4_refuse 3 x σ = some (0, sI (sI σ 3 4 x) 3 5 (gI σ 3 7)) := by
  unfold fX4_refuse
  rw [u_pI3 hS, bs, u_fI3 (q_sI hS _ _ _), bs, gI_sI2 (by decide), u_pI3 (q_sI hS _ _ _), bs]
theorem lstE {σ : Mem} {b p s : Nat} {d : PD} (hS : ST σ) (hb : isB b) (hp : p < 10) (hs : s < 4) (hd : okP d) (h : HP σ (Pt b p s) d) : fX0_lastEnd (Pt b p s) σ = some (nI (if d.2.1 = 0 then 0 else d.2.2.1 (d.2.1 - 1)), σ) := by
  have n3 := hd.2.1
  unfold fX0_lastEnd
  rw [v_fIT hS hb hp hs, bs, h.2.1]
  by_cases c : d.2.1 = 0
  · rw [if_pos (by rw [c]; decide), if_pos c]; rfl
  · rw [if_neg (by rw [w_1]; exact nI_nlt (by omega) (by omega)), if_neg c, bs, w_3, if_pos (nI_le n3 (by decide)), v_RT0 hS hb hp hs, bs, bs, w_1, pk_sub (by omega), v_aT1 hS hb hp hs (by omega), bs, (h.2.2.2 (d.2.1 - 1) (by omega)).1]
    rfl
theorem lsB {σ : Mem} {b A w : Nat} {st : PS} (hS : ST σ) (hb : isB b) (hI : INV A st) (hC : C8 σ b A st) (hA : A ≤ 9) (hw : 1 ≤ w) (hw9 : w ≤ 9) (hf : mayF A w = true) : fX4_leastBehind 3 (nI w) σ = some (nI (lo_ w st), σ) := by
  obtain ⟨m1, m2, m3, m4, m5, m6, m7, m8, m9, -⟩ := mF_x (by omega) hf
  obtain ⟨j1, j2, j3⟩ := hI.2.2.1 hA
  obtain ⟨k1, k2⟩ := hC.2.2.2.1 hA
  unfold fX4_leastBehind
  by_cases c2 : w = 2
  · subst c2; rw [if_pos (by decide)]; rfl
  rw [if_neg (by rw [w_2, nI_eq (by omega) (by decide)]; exact c2)]
  by_cases c4 : w = 4
  · subst c4
    rw [if_pos (by decide), u_R3_2 hS, bs, k1, if_neg (by simp), bs, v_fIP hS hb j1, bs, k2.2.2.2.2.1]
    rfl
  rw [if_neg (by rw [w_4, nI_eq (by omega) (by decide)]; exact c4)]
  by_cases c7 : w = 7
  · subst c7
    have hA5 : 5 ≤ A := by omega
    obtain ⟨q1, q2⟩ := hI.2.2.2.1 hA5 hA
    have k3 := hC.2.2.2.2 hA5 hA
    rw [if_pos (by decide), u_R3_3 hS, bs, k3, if_neg (by simp), bs, v_kTT hS hb j1 q1, bs, lstE hS hb j1 q1 (j3.2.2.2.2.2.2 _ q1 q2) (k2.2.2.2.2.2.2.2 _ q1 q2), b2s, nI_1]
    rfl
  rw [if_neg (by rw [w_7, nI_eq (by omega) (by decide)]; exact c7)]
  unfold lo_
  rw [if_neg c2, if_neg c4, if_neg c7]
  rfl
theorem gsB {σ : Mem} {w : Nat} (hw : 1 ≤ w) (hw9 : w ≤ 9) : fX4_greatestBehind (nI w) σ = some (nI (hi_ w), σ) := by
  have c9 : w = 1 ∨ w = 2 ∨ w = 3 ∨ w = 4 ∨ w = 5 ∨ w = 6 ∨ w = 7 ∨ w = 8 ∨ w = 9 := by omega
  unfold fX4_greatestBehind
  rcases c9 with rfl | rfl | rfl | rfl | rfl | rfl | rfl | rfl | rfl
  · rw [if_pos (by decide)]; rfl
  · rw [if_neg (by decide), if_pos (by decide)]; rfl
  · rw [if_neg (by decide), if_neg (by decide), if_pos (by decide)]; rfl
  · rw [if_neg (by decide), if_neg (by decide), if_neg (by decide), if_pos (by decide)]; rfl
  · rw [if_neg (by decide), if_neg (by decide), if_neg (by decide), if_neg (by decide), if_pos (by decide)]; rfl
  · rw [if_neg (by decide), if_neg (by decide), if_neg (by decide), if_neg (by decide), if_neg (by decide), if_pos (by decide)]; rfl
  · rw [if_neg (by decide), if_neg (by decide), if_neg (by decide), if_neg (by decide), if_neg (by decide), if_neg (by decide), if_pos (by decide)]; rfl
  · rw [if_neg (by decide), if_neg (by decide), if_neg (by decide), if_neg (by decide), if_neg (by decide), if_neg (by decide), if_neg (by decide)]; rfl
  · rw [if_neg (by decide), if_neg (by decide), if_neg (by decide), if_neg (by decide), if_neg (by decide), if_neg (by decide), if_neg (by decide)]; rfl
theorem ppI {σ : Mem} {w : Nat} (hS : ST σ) (hw : 1 ≤ w) (hw5 : w ≤ 5) : fX4_putInPart 3 (nI w) σ = some σ := by
  have c9 : w = 1 ∨ w = 2 ∨ w = 3 ∨ w = 4 ∨ w = 5 := by omega
  unfold fX4_putInPart
  rw [u_R3_3 hS, bs]
  cases gR σ 3 3 with
  | none => rw [if_pos rfl]
  | some c =>
    rw [if_neg (by simp)]
    rcases c9 with rfl | rfl | rfl | rfl | rfl <;> (rw [if_neg (by decide), if_neg (by decide), if_neg (by decide), if_neg (by decide)]; rfl)
theorem plI {σ : Mem} {b n w : Nat} (hS : ST σ) (h : gR σ 3 2 = some (Pl b n)) (hw : 6 ≤ w) (hw9 : w ≤ 9) : fX4_putInPlan 3 (nI w) σ = some σ := by
  have c9 : w = 6 ∨ w = 7 ∨ w = 8 ∨ w = 9 := by omega
  unfold fX4_putInPlan
  rw [u_R3_2 hS, bs, h, if_neg (by simp)]
  rcases c9 with rfl | rfl | rfl | rfl <;> (rw [if_neg (by decide), if_neg (by decide), if_neg (by decide), if_neg (by decide), if_neg (by decide)]; rfl)
theorem sh_or : ∀ sv, sv < 16 → ∀ v, v < 4 → (nI sv ||| ((1 : Int32) <<< (nI v &&& 31))) = nI (sv ||| 2 ^ v) := by decide +kernel
/-- a number put where it belongs -/
theorem b75 {σ : Mem} {b A w v : Nat} {st : PS} (hS : ST σ) (hb : isB b) (hI : INV A st) (hC : C8 σ b A st) (hA : A ≤ 9) (hw : 1 ≤ w) (hw9 : w ≤ 9) (hf : mayF A w = true) (h3 : w = 7 → (cT st).2.1 < 3) (hv : gI σ 3 10 = nI v) (h2 : v ≤ hi_ w) : ∃ τ, fX4_readNumber_b75 3 (nI w) σ = some (1, τ) ∧ Fr (pf b st.1) σ τ ∧ C8 τ b w (put_ w v st) ∧ ∀ k, 4 ≤ k → gI τ 3 k = gI σ 3 k := by
  obtain ⟨m1, m2, m3, m4, m5, m6, m7, m8, m9, -⟩ := mF_x (by omega) hf
  obtain ⟨j1, j2, j3⟩ := hI.2.2.1 hA
  obtain ⟨k1, n1, n2, n3⟩ := hC.2.2.2.1 hA
  have n3' := n3
  obtain ⟨l1, l2, l3, l4, l5, l6⟩ := n3'
  have hb4 : 4 ≤ b := by rcases hb with rfl | rfl <;> decide
  have ne3 : ¬ (3 = Pl b st.1) := by unfold Pl; omega
  have c9 : w = 1 ∨ w = 2 ∨ w = 3 ∨ w = 4 ∨ w = 5 ∨ w = 6 ∨ w = 7 ∨ w = 8 ∨ w = 9 := by omega
  -- a field of the plan
  have fld (k : Nat) (f : LD → LD) (hp : fX4_putInPlan 3 (nI w) σ = some (sI σ (Pl b st.1) k (nI v))) (hw5 : w ≤ 4) (he : put_ w v st = uP st f) (hN : HN8 (sI σ (Pl b st.1) k (nI v)) b st.1 ((st.2.1 st.1).1, f (cP st))) : ∃ τ, fX4_readNumber_b75 3 (nI w) σ = some (1, τ) ∧ Fr (pf b st.1) σ τ ∧ C8 τ b w (put_ w v st) ∧ ∀ k, 4 ≤ k → gI τ 3 k = gI σ 3 k := by
    have F : Fr (pf b st.1) σ (sI σ (Pl b st.1) k (nI v)) := Fr.cI (Fr.refl hS) (by unfold pf; omega)
    refine ⟨_, ?_, F, ?_, fun j _ => gI_sI2 (by omega)⟩
    · unfold fX4_readNumber_b75
      rw [u_kT3 hS, bs, hp, bs, u_kT3 F.1, bs, ppI F.1 hw (by omega), bs]
    · rw [he]
      refine C8_mk hb hA F hC (fun p hp => if_neg (by omega)) ?_ (fun h => by omega)
      show HN8 _ b st.1 (if st.1 = st.1 then ((st.2.1 st.1).1, f (st.2.1 st.1).2) else st.2.1 st.1)
      rw [if_pos rfl]
      exact hN
  have pts (k : Nat) (x : Int32) : ∀ s, s < 4 → (cP st).2.2.2.2.1.testBit s = true → HP (sI σ (Pl b st.1) k x) (Pt b st.1 s) ((cP st).2.2.2.2.2 s) := fun s s1 s2 => HP_o (fun j hj => gI_sI_n (by unfold Pt Pl; omega)) (l6 s s1 s2)
  have pl0 : fX4_putInPlan 3 (nI w) σ = (if nI w = 1 then (fR σ 4 2 (some 3)).bind fun t4 => (fI σ 4 10 (some 3)).bind fun t5 => (pI σ 2 3 t4 t5).bind fun m6 => fX4_putInPlan_b118 m6 else if nI w = 2 then (fR σ 4 2 (some 3)).bind fun t8 => (fI σ 4 10 (some 3)).bind fun t9 => (pI σ 2 4 t8 t9).bind fun m10 => fX4_putInPlan_b118 m10 else if nI w = 3 then (fR σ 4 2 (some 3)).bind fun t12 => (fI σ 4 10 (some 3)).bind fun t13 => (pI σ 2 5 t12 t13).bind fun m14 => fX4_putInPlan_b118 m14 else if nI w = 4 then (fR σ 4 2 (some 3)).bind fun t16 => (fI σ 4 10 (some 3)).bind fun t17 => (pI σ 2 6 t16 t17).bind fun m18 => fX4_putInPlan_b118 m18 else if nI w = 5 then (fR σ 4 2 (some 3)).bind fun t20 => (fI σ 4 10 (some 3)).bind fun t21 => (kT σ 2 t20).bind fun k22 => b2 (fX2_addPart k22 t21 σ) fun t23 m24 => (pR m24 4 3 (some 3) t23).bind fun m25 => fX4_putInPlan_b118 m25 else fX4_putInPlan_b118 σ) := by
    unfold fX4_putInPlan
    rw [u_R3_2 hS, bs, k1, if_neg (by simp)]
  rw [u_R3_2 hS, bs, k1, u_fI3 hS, bs, hv] at pl0
  -- a part at hand
  have prt (hw6 : 6 ≤ w) (f : PD → PD) (τ : Mem) (F : Fr (fun c _ => Pt b st.1 st.2.2 ≤ c ∧ c < Pt b st.1 st.2.2 + 3) σ τ) (hp : fX4_putInPart 3 (nI w) σ = some τ) (he : put_ w v st = uT st f) (hN : HP σ (Pt b st.1 st.2.2) (cT st) → HP τ (Pt b st.1 st.2.2) (f (cT st))) : ∃ τ, fX4_readNumber_b75 3 (nI w) σ = some (1, τ) ∧ Fr (pf b st.1) σ τ ∧ C8 τ b w (put_ w v st) ∧ ∀ k, 4 ≤ k → gI τ 3 k = gI σ 3 k := by
    obtain ⟨q1, q2⟩ := hI.2.2.2.1 (by omega) hA
    have F2 : Fr (pf b st.1) σ τ := Fr.mono F (by intro c k h; unfold Pt at h; unfold pf Pl; omega)
    refine ⟨τ, ?_, F2, ?_, fun j _ => (F.2 3 j (by unfold Pt; omega)).1⟩
    · unfold fX4_readNumber_b75
      rw [u_kT3 hS, bs, plI hS k1 hw6 hw9, bs, u_kT3 hS, bs, hp, bs]
    · rw [he]
      have e0 : gI τ (Pl b st.1) = gI σ (Pl b st.1) := F.eI (fun k => by unfold Pt Pl; omega)
      refine C8_mk hb hA F2 hC (fun p hp => if_neg (by omega)) ?_ (fun _ _ => (F.2 3 3 (by unfold Pt; omega)).2.2.trans (hC.2.2.2.2 (by omega) hA))
      show HN8 _ b st.1 (if st.1 = st.1 then ((st.2.1 st.1).1, _) else st.2.1 st.1)
      rw [if_pos rfl]
      refine ⟨(F.2 _ 1 (by unfold Pt Pl; omega)).2.1.trans n1, by rw [e0]; exact n2, ?_⟩
      unfold HL8
      rw [e0]
      refine ⟨l1, l2, l3, l4, l5, fun s s1 s2 => ?_⟩
      show HP τ (Pt b st.1 s) (if s = st.2.2 then f ((cP st).2.2.2.2.2 s) else (cP st).2.2.2.2.2 s)
      by_cases c : s = st.2.2
      · subst c
        rw [if_pos rfl]
        exact hN (l6 _ s1 s2)
      · rw [if_neg c]
        exact HP_o (fun j hj => F.eI (fun k => by unfold Pt; omega)) (l6 s s1 s2)
  have pp0 (h6 : 6 ≤ w) : fX4_putInPart 3 (nI w) σ = (if nI w = 6 then (some (some (Pt b st.1 st.2.2))).bind fun t4 => (some (nI v)).bind fun t5 => (pI σ 0 2 t4 t5).bind fun m6 => fX4_putInPart_b96 m6 else if nI w = 7 then (some (some (Pt b st.1 st.2.2))).bind fun t8 => (some (nI v)).bind fun t9 => (kT σ 0 t8).bind fun k10 => (fX0_addStep k10 t9 σ).bind fun m11 => fX4_putInPart_b96 m11 else if nI w = 8 then (some (some (Pt b st.1 st.2.2))).bind fun t13 => (some (nI v)).bind fun t14 => (kT σ 0 t13).bind fun k15 => (fX0_priceLastStep k15 t14 σ).bind fun m16 => fX4_putInPart_b96 m16 else if nI w = 9 then (some (some (Pt b st.1 st.2.2))).bind fun t18 => (some (nI v)).bind fun t19 => (pI σ 0 4 t18 t19).bind fun m20 => fX4_putInPart_b96 m20 else fX4_putInPart_b96 σ) := by
    unfold fX4_putInPart
    rw [u_R3_3 hS, bs, hC.2.2.2.2 (by omega) hA, if_neg (by simp), u_fI3 hS, hv]
  rcases c9 with rfl | rfl | rfl | rfl | rfl | rfl | rfl | rfl | rfl
  · refine fld 3 (fun l => (v, l.2)) ?_ (by decide) (put_1 v st) ⟨n1, by rw [gI_sI2 (by omega)]; exact n2, gI_sI1, by rw [gI_sI2 (by omega)]; exact l2, by rw [gI_sI2 (by omega)]; exact l3, by rw [gI_sI2 (by omega)]; exact l4, by rw [gI_sI2 (by omega)]; exact l5, pts 3 _⟩
    rw [pl0, if_pos (by decide), v_pIP hS hb j1, bs]; rfl
  · refine fld 4 (fun l => (l.1, v, l.2.2)) ?_ (by decide) (put_2 v st) ⟨n1, by rw [gI_sI2 (by omega)]; exact n2, by rw [gI_sI2 (by omega)]; exact l1, gI_sI1, by rw [gI_sI2 (by omega)]; exact l3, by rw [gI_sI2 (by omega)]; exact l4, by rw [gI_sI2 (by omega)]; exact l5, pts 4 _⟩
    rw [pl0, if_neg (by decide), if_pos (by decide), bs, bs, v_pIP hS hb j1, bs]; rfl
  · refine fld 5 (fun l => (l.1, l.2.1, v, l.2.2.2)) ?_ (by decide) (put_3 v st) ⟨n1, by rw [gI_sI2 (by omega)]; exact n2, by rw [gI_sI2 (by omega)]; exact l1, by rw [gI_sI2 (by omega)]; exact l2, gI_sI1, by rw [gI_sI2 (by omega)]; exact l4, by rw [gI_sI2 (by omega)]; exact l5, pts 5 _⟩
    rw [pl0, if_neg (by decide), if_neg (by decide), if_pos (by decide), bs, bs, v_pIP hS hb j1, bs]; rfl
  · refine fld 6 (fun l => (l.1, l.2.1, l.2.2.1, v, l.2.2.2.2)) ?_ (by decide) (put_4 v st) ⟨n1, by rw [gI_sI2 (by omega)]; exact n2, by rw [gI_sI2 (by omega)]; exact l1, by rw [gI_sI2 (by omega)]; exact l2, by rw [gI_sI2 (by omega)]; exact l3, gI_sI1, by rw [gI_sI2 (by omega)]; exact l5, pts 6 _⟩
    rw [pl0, if_neg (by decide), if_neg (by decide), if_neg (by decide), if_pos (by decide), bs, bs, v_pIP hS hb j1, bs]; rfl
  · -- a part begins
    rw [hi_5] at h2
    have v4 : v < 4 := by omega
    have e1 := q_sI (q_sI (q_sI hS (Pt b st.1 v) 2 0) (Pt b st.1 v) 3 0) (Pt b st.1 v) 4 0
    have e2 := q_sI e1 (Pl b st.1) 7 (nI ((cP st).2.2.2.2.1 ||| 2 ^ v))
    have e3 := u_S3_3 (x := some (Pt b st.1 v)) e2
    have nPP : ¬ (Pl b st.1 = Pt b st.1 v) := by unfold Pt Pl; omega
    have F : Fr (pf b st.1) σ (sR (sI (sI (sI (sI σ (Pt b st.1 v) 2 0) (Pt b st.1 v) 3 0) (Pt b st.1 v) 4 0) (Pl b st.1) 7 (nI ((cP st).2.2.2.2.1 ||| 2 ^ v))) 3 3 (some (Pt b st.1 v))) := Fr.tr (Fr.cI (Fr.cI (Fr.cI (Fr.cI (Fr.refl hS) (by unfold pf Pt Pl; omega)) (by unfold pf Pt Pl; omega)) (by unfold pf Pt Pl; omega)) (by unfold pf; omega)) (FrsR e3 (by unfold pf; omega))
    have adp : fX2_addPart (Pl b st.1) (nI v) σ = some (some (Pt b st.1 v), sI (sI (sI (sI σ (Pt b st.1 v) 2 0) (Pt b st.1 v) 3 0) (Pt b st.1 v) 4 0) (Pl b st.1) 7 (nI ((cP st).2.2.2.2.1 ||| 2 ^ v))) := by
      have iw0 : fX8_isWithin (nI v) 0 3 σ = some (1, σ) := by rw [w_0, w_3, iwN (by omega) (by decide) (by decide), if_pos (by omega)]
      unfold fX2_addPart fX0_clear
      rw [iw0, b2s, if_neg (by decide), v_RP hS hb j1, bs, v_aP hS hb j1 v4, bs, if_neg (by simp), v_kTT hS hb j1 v4, bs, v_pIT hS hb j1 v4, bs, v_pIT (q_sI hS _ _ _) hb j1 v4, bs, v_pIT (q_sI (q_sI hS _ _ _) _ _ _) hb j1 v4, bs, bs, v_fIP e1 hb j1, bs, gI_sI2 (by omega), gI_sI2 (by omega), gI_sI2 (by omega), show gI σ (Pl b st.1) 7 = nI (cP st).2.2.2.2.1 from l5, sh_or _ j3.2.2.2.2.2.1 v v4, v_pIP e1 hb j1, bs]
      rfl
    refine ⟨_, ?_, F, ?_, fun j hj => ?_⟩
    · unfold fX4_readNumber_b75
      rw [u_kT3 hS, bs, pl0, if_neg (by decide), if_neg (by decide), if_neg (by decide), if_neg (by decide), if_pos (by decide), bs, bs, v_kTP hS hb j1, bs, adp, b2s, u_P3_3 e2, bs]
      unfold fX4_putInPlan_b118
      rw [bs, u_kT3 e3, bs, ppI (w := 5) e3 (by decide) (by decide), bs]
    · rw [put_5]
      show C8 _ b 5 (st.1, (uP st (f5 v)).2.1, v)
      refine C8_mk (st := st) hb hA F hC (fun p hp => show (if p = st.1 then ((st.2.1 p).1, f5 v (st.2.1 p).2) else st.2.1 p) = st.2.1 p from if_neg (by omega)) ?_ (fun _ _ => gR_sR1)
      show HN8 _ b st.1 (if st.1 = st.1 then ((st.2.1 st.1).1, f5 v (st.2.1 st.1).2) else st.2.1 st.1)
      rw [if_pos rfl]
      have gs (c k : Nat) (h1 : ¬ (c = Pt b st.1 v ∧ 2 ≤ k ∧ k ≤ 4)) (h2 : ¬ (c = Pl b st.1 ∧ k = 7)) : gI (sR (sI (sI (sI (sI σ (Pt b st.1 v) 2 0) (Pt b st.1 v) 3 0) (Pt b st.1 v) 4 0) (Pl b st.1) 7 (nI ((cP st).2.2.2.2.1 ||| 2 ^ v))) 3 3 (some (Pt b st.1 v))) c k = gI σ c k := by
        rw [gI_sR, gI_sI2 (by omega), gI_sI2 (by omega), gI_sI2 (by omega), gI_sI2 (by omega)]
      have o2 := (or_bit _ j3.2.2.2.2.2.1 v v4).2
      refine ⟨n1, by rw [gs _ _ (by omega) (by omega)]; exact n2, by rw [gs _ _ (by omega) (by omega)]; exact l1, by rw [gs _ _ (by omega) (by omega)]; exact l2, by rw [gs _ _ (by omega) (by omega)]; exact l3, by rw [gs _ _ (by omega) (by omega)]; exact l4, by rw [gI_sR, gI_sI1]; rfl, fun s s1 s2 => ?_⟩
      have s2 : ((cP st).2.2.2.2.1 ||| 2 ^ v).testBit s = true := s2
      have ef : (f5 v (st.2.1 st.1).2).2.2.2.2.2 s = if s = v then (0, 0, ((cP st).2.2.2.2.2 s).2.2.1, ((cP st).2.2.2.2.2 s).2.2.2.1, 0) else (cP st).2.2.2.2.2 s := rfl
      rw [ef]
      by_cases c : s = v
      · subst c
        rw [if_pos rfl]
        refine ⟨?_, ?_, ?_, fun i hi => absurd hi (Nat.not_lt_zero i)⟩
        · rw [gI_sR, gI_sI2 (by omega), gI_sI2 (by omega), gI_sI2 (by omega), gI_sI1]; rfl
        · rw [gI_sR, gI_sI2 (by omega), gI_sI2 (by omega), gI_sI1]; rfl
        · rw [gI_sR, gI_sI2 (by omega), gI_sI1]; rfl
      · rw [if_neg c]
        rw [o2 s s1] at s2
        refine HP_o (fun j hj => funext fun k => gs _ k (by unfold Pt; omega) (by unfold Pt Pl; omega)) (l6 s s1 (show (cP st).2.2.2.2.1.testBit s = true by simpa [c] using s2))
    · rw [gI_sR, gI_sI2 (by omega), gI_sI2 (by unfold Pt; omega), gI_sI2 (by unfold Pt; omega), gI_sI2 (by unfold Pt; omega)]
  · obtain ⟨q1, q2⟩ := hI.2.2.2.1 (by omega) hA
    refine prt (by decide) (fun d => (v, d.2)) (sI σ (Pt b st.1 st.2.2) 2 (nI v)) (Fr.cI (Fr.refl hS) (by omega)) ?_ (put_6 v st) (fun h => ⟨gI_sI1, by rw [gI_sI2 (by omega)]; exact h.2.1, by rw [gI_sI2 (by omega)]; exact h.2.2.1, fun i hi => by rw [gI_sI2 (by omega), gI_sI2 (by omega)]; exact h.2.2.2 i hi⟩)
    rw [pp0 (by decide), if_pos (by decide), bs, bs, v_pIT hS hb j1 q1, bs]
    rfl
  · obtain ⟨q1, q2⟩ := hI.2.2.2.1 (by omega) hA
    have h3 := h3 rfl
    have hp := l6 _ q1 q2
    have hp3 : gI σ (Pt b st.1 st.2.2) 3 = nI (cT st).2.1 := hp.2.1
    have S1 := q_sI hS (Pt b st.1 st.2.2 + 1) (cT st).2.1 (nI v)
    have S2 := q_sI S1 (Pt b st.1 st.2.2 + 2) (cT st).2.1 0
    refine prt (by decide) (f7 v) (sI (sI (sI σ (Pt b st.1 st.2.2 + 1) (cT st).2.1 (nI v)) (Pt b st.1 st.2.2 + 2) (cT st).2.1 0) (Pt b st.1 st.2.2) 3 (nI ((cT st).2.1 + 1))) (Fr.cI (Fr.cI (Fr.cI (Fr.refl hS) (by omega)) (by omega)) (by omega)) ?_ (put_7 v st) (fun h => ?_)
    · rw [pp0 (by decide), if_neg (by decide), if_pos (by decide), bs, bs, v_kTT hS hb j1 q1, bs]
      unfold fX0_addStep
      rw [v_fIT hS hb j1 q1, bs, hp3, if_neg (nI_pos (by omega)), bs, w_3, if_neg (nI_ge (by omega) (by decide)), v_RT0 hS hb j1 q1, bs, bs, v_wT1 hS hb j1 q1 (by omega), bs, v_RT1 S1 hb j1 q1, bs, v_fIT S1 hb j1 q1, bs, gI_sI2 (by omega), hp3, v_wT2 S1 hb j1 q1 (by omega), bs, v_fIT S2 hb j1 q1, bs, gI_sI2 (by omega), gI_sI2 (by omega), hp3, v_pIT S2 hb j1 q1, bs, nI_1]
      rfl
    · refine ⟨by rw [gI_sI2 (by omega), gI_sI2 (by omega), gI_sI2 (by omega)]; exact h.1, gI_sI1, by rw [gI_sI2 (by omega), gI_sI2 (by omega), gI_sI2 (by omega)]; exact h.2.2.1, fun i hi => ?_⟩
      have hi : i < (cT st).2.1 + 1 := hi
      have a1 : (f7 v (cT st)).2.2.1 i = if i = (cT st).2.1 then v else (cT st).2.2.1 i := rfl
      have a2 : (f7 v (cT st)).2.2.2.1 i = if i = (cT st).2.1 then 0 else (cT st).2.2.2.1 i := rfl
      rw [a1, a2]
      by_cases c : i = (cT st).2.1
      · rw [if_pos c, if_pos c, c]
        constructor
        · rw [gI_sI2 (by omega), gI_sI2 (by omega), gI_sI1]
        · rw [gI_sI2 (by omega), gI_sI1]; rfl
      · rw [if_neg c, if_neg c]
        obtain ⟨b1, b2'⟩ := h.2.2.2 i (by omega)
        constructor
        · rw [gI_sI2 (by omega), gI_sI2 (by omega), gI_sI2 (by omega)]; exact b1
        · rw [gI_sI2 (by omega), gI_sI2 (by omega), gI_sI2 (by omega)]; exact b2'
  · obtain ⟨q1, q2⟩ := hI.2.2.2.1 (by omega) hA
    have hp := l6 _ q1 q2
    have hp3 : gI σ (Pt b st.1 st.2.2) 3 = nI (cT st).2.1 := hp.2.1
    have st1 := hI.2.2.2.2.1 (by omega)
    have st3 := (j3.2.2.2.2.2.2 _ q1 q2).2.1
    have st3 : (cT st).2.1 ≤ 3 := st3
    refine prt (by decide) (f8 v) (sI σ (Pt b st.1 st.2.2 + 2) ((cT st).2.1 - 1) (nI v)) (Fr.cI (Fr.refl hS) (by omega)) ?_ (put_8 v st) (fun h => ?_)
    · rw [pp0 (by decide), if_neg (by decide), if_neg (by decide), if_pos (by decide), bs, bs, v_kTT hS hb j1 q1, bs]
      unfold fX0_priceLastStep
      rw [v_fIT hS hb j1 q1, bs, hp3, if_neg (by rw [w_1]; exact nI_nlt st1 (by omega)), bs, w_3, if_neg (nI_nlt st3 (by decide)), v_RT1 hS hb j1 q1, bs, bs, w_1, pk_sub st1, v_wT2 hS hb j1 q1 (by omega), bs]
      rfl
    · refine ⟨by rw [gI_sI2 (by omega)]; exact h.1, by rw [gI_sI2 (by omega)]; exact h.2.1, by rw [gI_sI2 (by omega)]; exact h.2.2.1, fun i hi => ?_⟩
      have hi : i < (cT st).2.1 := hi
      have a2 : (f8 v (cT st)).2.2.2.1 i = if i = (cT st).2.1 - 1 then v else (cT st).2.2.2.1 i := rfl
      rw [a2, gI_sI2 (by omega)]
      refine ⟨(h.2.2.2 i hi).1, ?_⟩
      by_cases c : i = (cT st).2.1 - 1
      · rw [if_pos c, c, gI_sI1]
      · rw [if_neg c, gI_sI2 (by omega)]
        exact (h.2.2.2 i hi).2
  · obtain ⟨q1, q2⟩ := hI.2.2.2.1 (by omega) hA
    refine prt (by decide) (fun d => (d.1, d.2.1, d.2.2.1, d.2.2.2.1, v)) (sI σ (Pt b st.1 st.2.2) 4 (nI v)) (Fr.cI (Fr.refl hS) (by omega)) ?_ (put_9 v st) (fun h => ⟨by rw [gI_sI2 (by omega)]; exact h.1, by rw [gI_sI2 (by omega)]; exact h.2.1, gI_sI1, fun i hi => by rw [gI_sI2 (by omega), gI_sI2 (by omega)]; exact h.2.2.2 i hi⟩)
    rw [pp0 (by decide), if_neg (by decide), if_neg (by decide), if_neg (by decide), if_pos (by decide), bs, bs, v_pIT hS hb j1 q1, bs]
    rfl
