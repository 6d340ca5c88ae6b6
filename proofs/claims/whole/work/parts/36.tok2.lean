/-! the class's scanner -/
theorem sh8 (a : Nat) : lN a <<< ((8 : Int32).toInt64 &&& 63) = lN (a * 256) := by
  have e : ((8 : Int32).toInt64 &&& 63) = lN 8 := by decide
  rw [e]
  apply Int64.toBitVec_inj.mp
  rw [Int64.toBitVec_shiftLeft]
  apply BitVec.eq_of_toNat_eq
  show (BitVec.ofNat 64 a <<< ((BitVec.ofNat 64 8).smod 64)).toNat = (BitVec.ofNat 64 (a * 256)).toNat
  rw [show (BitVec.ofNat 64 8).smod 64 = BitVec.ofNat 64 8 by decide, BitVec.shiftLeft_eq', BitVec.toNat_shiftLeft, BitVec.toNat_ofNat, BitVec.toNat_ofNat, BitVec.toNat_ofNat, Nat.shiftLeft_eq]
  show a % 2 ^ 64 * 2 ^ 8 % 2 ^ 64 = a * 256 % 2 ^ 64
  omega
theorem or8 {a c : Nat} (hc : c < 256) (h : a * 256 + c < 2 ^ 63) : lN (a * 256) ||| lN c = lN (a * 256 + c) := by
  apply Int64.toBitVec_inj.mp
  rw [Int64.toBitVec_or]
  apply BitVec.eq_of_toNat_eq
  show (BitVec.ofNat 64 (a * 256) ||| BitVec.ofNat 64 c).toNat = (BitVec.ofNat 64 (a * 256 + c)).toNat
  have h3 : a * 256 + c < 2 ^ 64 := Nat.lt_trans h (by decide)
  have h1 : a * 256 < 2 ^ 64 := Nat.lt_of_le_of_lt (Nat.le_add_right _ _) h3
  have h2 : c < 2 ^ 64 := Nat.lt_trans hc (by decide)
  rw [BitVec.toNat_or, BitVec.toNat_ofNat, BitVec.toNat_ofNat, BitVec.toNat_ofNat, Nat.mod_eq_of_lt h1, Nat.mod_eq_of_lt h2, Nat.mod_eq_of_lt h3, Nat.mul_comm a 256]
  exact (Nat.two_pow_add_eq_or_of_lt (i := 8) hc a).symm
theorem isBl_ {c : Nat} (hc : c ≤ 255) (σ : Mem) : fX4_isBlank (nI c) σ = some (if isBl c = true then 1 else 0, σ) := by
  unfold fX4_isBlank isBl
  by_cases c1 : c = 32
  · subst c1
    rw [if_pos (by decide), if_pos (by decide)]; rfl
  · rw [if_neg (by rw [w_32, nI_eq (by omega) (by decide)]; exact c1)]
    by_cases c2 : c = 10
    · subst c2
      rw [if_pos (by decide), if_pos (by decide)]; rfl
    · rw [if_neg (by rw [w_10, nI_eq (by omega) (by decide)]; exact c2), if_neg (by simp [c1, c2])]; rfl
theorem sk10 {σ : Mem} {L : Nat} {T : Nat → Nat} (hS : ST σ) (ht : tp σ L T) : ∀ k p N, p ≤ L → L ≤ p + k → k < N → fX4_scan_b10 N 3 (nI p) σ = fX4_scan_b41 3 (nI (skb T L k p)) σ := by
  have hL := ht.1
  intro k
  induction k with
  | zero =>
    intro p N h1 h2 h3
    obtain ⟨N, rfl⟩ : ∃ M, N = M + 1 := ⟨N - 1, by omega⟩
    rw [fX4_scan_b10, u_R3_0 hS, bs, u_fI1 hS, bs, ht.2.1, if_pos (nI_le (by omega) (by omega))]
    rfl
  | succ k ih =>
    intro p N h1 h2 h3
    obtain ⟨N, rfl⟩ : ∃ M, N = M + 1 := ⟨N - 1, by omega⟩
    have e : skb T L (k + 1) p = if p < L ∧ isBl (T p) = true then skb T L k (p + 1) else p := rfl
    rw [fX4_scan_b10, u_R3_0 hS, bs, u_fI1 hS, bs, ht.2.1, e]
    by_cases c : p < L
    · have hT := (ht.2.2 p (by omega)).1
      rw [if_neg (nI_ge c (by omega)), bs, u_kT1 hS, bs, byA hS ht c, b2s, isBl_ hT, b2s]
      by_cases c2 : isBl (T p) = true
      · rw [if_pos c2, if_neg (by decide), bd_, nI_1, if_pos ⟨c, c2⟩]
        exact ih (p + 1) N (by omega) (by omega) (by omega)
      · rw [if_neg c2, if_pos rfl, if_neg (fun z => c2 z.2)]
    · rw [if_pos (nI_le (by omega) (by omega)), if_neg (fun z => c z.1)]
def dc (T : Nat → Nat) (p : Nat) : Nat → Nat
  | 0 => 0
  | i + 1 => dc T p i + if isD (T (p + i)) = true then 1 else 0
theorem dc_f {T : Nat → Nat} {p : Nat} : ∀ n, (∀ i, i < n → (isL (T (p + i)) || isD (T (p + i))) = true) → dc T p n ≤ n ∧ (dc T p n = n ↔ (seg T p n).all isD = true) ∧ (dc T p n = 0 ↔ (seg T p n).all isL = true) := by
  intro n
  induction n with
  | zero => intro _; simp [dc, seg]
  | succ n ih =>
    intro h
    obtain ⟨i1, i2, i3⟩ := ih (fun i hi => h i (by omega))
    have hn := h n (by omega)
    have e : dc T p (n + 1) = dc T p n + if isD (T (p + n)) = true then 1 else 0 := rfl
    have e2 : seg T p (n + 1) = seg T p n ++ [T (p + n)] := rfl
    rw [e, e2, List.all_append, List.all_append]
    cases hd : isD (T (p + n)) with
    | true =>
      have hl : isL (T (p + n)) = false := by
        unfold isD at hd
        unfold isL
        simp only [Bool.and_eq_true, decide_eq_true_eq] at hd
        simp only [Bool.and_eq_false_iff, decide_eq_false_iff_not]
        omega
      simp [hd, hl]
      refine ⟨by omega, ?_⟩
      rw [← List.all_eq_true, ← i2]
    | false =>
      rw [hd, Bool.or_false] at hn
      simp [hd, hn]
      refine ⟨by omega, by omega, ?_⟩
      rw [← List.all_eq_true, ← i3]
theorem wIn {c : Nat} (hc : c ≤ 255) (σ : Mem) : fX8_isWithin (nI c) 48 57 σ = some (if isD c = true then 1 else 0, σ) ∧ fX8_isWithin (nI c) 97 122 σ = some (if isL c = true then 1 else 0, σ) := by
  constructor
  · rw [w_48, w_57, iwN (by omega) (by decide) (by decide)]
    unfold isD
    simp only [Bool.and_eq_true, decide_eq_true_eq]
  · rw [w_97, w_122, iwN (by omega) (by decide) (by decide)]
    unfold isL
    simp only [Bool.and_eq_true, decide_eq_true_eq]
def rq (c k : Nat) : Prop := c = 3 ∧ 6 ≤ k ∧ k ≤ 11
theorem tp_fr {p : Nat → Nat → Prop} {σ τ : Mem} {L : Nat} {T : Nat → Nat} (F : Fr p σ τ) (h1 : ¬ p 1 1) (h2 : ∀ k, ¬ p 2 k) (h : tp σ L T) : tp τ L T := by
  refine ⟨h.1, (F.2 1 1 h1).1.trans h.2.1, fun j hj => ?_⟩
  rw [(F.2 2 j (h2 j)).1]
  exact h.2.2 j hj
theorem sr17 {L p : Nat} {T : Nat → Nat} : ∀ k i N σ, ST σ → tp σ L T → p + i ≤ L → L ≤ p + i + k → k < N → gI σ 3 8 = nI i → (∀ j, j < i → (isL (T (p + j)) || isD (T (p + j))) = true) → ((seg T p i).all isD = true → i ≤ 6 → gI σ 3 10 = nI (enc 10 48 (seg T p i) 0)) → ((seg T p i).all isL = true → i ≤ 8 → gJ σ 3 9 = lN (enc 256 0 (seg T p i) 0)) → ∃ τ, fX4_scanRun_b17 N 3 (nI (dc T p i)) (nI (p + i)) σ = fX4_scanRun_b120 3 (nI (dc T p (ren T L k (p + i) - p))) τ ∧ Fr rq σ τ ∧ gI τ 3 8 = nI (ren T L k (p + i) - p) ∧ ((seg T p (ren T L k (p + i) - p)).all isD = true → ren T L k (p + i) - p ≤ 6 → gI τ 3 10 = nI (enc 10 48 (seg T p (ren T L k (p + i) - p)) 0)) ∧ ((seg T p (ren T L k (p + i) - p)).all isL = true → ren T L k (p + i) - p ≤ 8 → gJ τ 3 9 = lN (enc 256 0 (seg T p (ren T L k (p + i) - p)) 0)) ∧ gI τ 3 6 = gI σ 3 6 ∧ gI τ 3 7 = gI σ 3 7 ∧ gI τ 3 11 = gI σ 3 11 := by
  intro k
  induction k with
  | zero =>
    intro i N σ hS ht h1 h2 h3 e8 ha hn hl
    have hL := ht.1
    obtain ⟨N, rfl⟩ : ∃ M, N = M + 1 := ⟨N - 1, by omega⟩
    have e : ren T L 0 (p + i) - p = i := by show p + i - p = i; omega
    rw [e]
    refine ⟨σ, ?_, Fr.refl hS, e8, hn, hl, rfl, rfl, rfl⟩
    rw [fX4_scanRun_b17, u_R3_0 hS, bs, u_fI1 hS, bs, ht.2.1, if_pos (nI_le (by omega) (by omega))]
  | succ k ih =>
    intro i N σ hS ht h1 h2 h3 e8 ha hn hl
    have hL := ht.1
    obtain ⟨N, rfl⟩ : ∃ M, N = M + 1 := ⟨N - 1, by omega⟩
    have e : ren T L (k + 1) (p + i) = if p + i < L ∧ (isL (T (p + i)) || isD (T (p + i))) = true then ren T L k (p + i + 1) else p + i := rfl
    rw [fX4_scanRun_b17, u_R3_0 hS, bs, u_fI1 hS, bs, ht.2.1]
    by_cases c : p + i < L
    · have hT := (ht.2.2 (p + i) (by omega)).1
      rw [if_neg (nI_ge c (by omega)), bs, u_kT1 hS, bs, byA hS ht c, b2s, (wIn hT σ).1, b2s]
      have ed : dc T p (i + 1) = dc T p i + if isD (T (p + i)) = true then 1 else 0 := rfl
      have es : seg T p (i + 1) = seg T p i ++ [T (p + i)] := rfl
      have step (σ1 : Mem) (F1 : Fr (fun c k => c = 3 ∧ k = 10) σ σ1) (hN : (seg T p (i + 1)).all isD = true → i + 1 ≤ 6 → gI σ1 3 10 = nI (enc 10 48 (seg T p (i + 1)) 0)) (ca : (isL (T (p + i)) || isD (T (p + i))) = true) : ∃ τ, fX4_scanRun_b90 (fX4_scanRun_b17 N) 3 (nI (dc T p (i + 1))) (nI (p + i)) (nI (T (p + i))) σ1 = fX4_scanRun_b120 3 (nI (dc T p (ren T L (k + 1) (p + i) - p))) τ ∧ Fr rq σ τ ∧ gI τ 3 8 = nI (ren T L (k + 1) (p + i) - p) ∧ ((seg T p (ren T L (k + 1) (p + i) - p)).all isD = true → ren T L (k + 1) (p + i) - p ≤ 6 → gI τ 3 10 = nI (enc 10 48 (seg T p (ren T L (k + 1) (p + i) - p)) 0)) ∧ ((seg T p (ren T L (k + 1) (p + i) - p)).all isL = true → ren T L (k + 1) (p + i) - p ≤ 8 → gJ τ 3 9 = lN (enc 256 0 (seg T p (ren T L (k + 1) (p + i) - p)) 0)) ∧ gI τ 3 6 = gI σ 3 6 ∧ gI τ 3 7 = gI σ 3 7 ∧ gI τ 3 11 = gI σ 3 11 := by
        have S1 := F1.1
        have F2 : Fr (fun c k => c = 3 ∧ (8 ≤ k ∧ k ≤ 10)) σ (sI (sJ σ1 3 9 ((gJ σ1 3 9 <<< ((8 : Int32).toInt64 &&& 63)) ||| (nI (T (p + i))).toInt64)) 3 8 (nI (i + 1))) := Fr.cI (Fr.cJ (Fr.mono F1 (by intro c k h; omega)) (by omega)) (by omega)
        rw [e, if_pos ⟨c, ca⟩]
        obtain ⟨τ, t1, t2, t3, t4, t5, t6, t7, t8⟩ := ih (i + 1) N _ F2.1 (tp_fr F2 (by omega) (by omega) ht) (by omega) (by omega) (by omega) gI_sI1 (fun j hj => by
          by_cases ej : j = i
          · rw [ej]; exact ca
          · exact ha j (by omega)) (fun a1 a2 => by rw [gI_sI2 (by omega), rdIJ]; exact hN a1 a2) (fun a1 a2 => by
          rw [rdJI, gJ_sJ1, (F1.2 3 9 (by omega)).2.1]
          rw [es, List.all_append, Bool.and_eq_true] at a1
          have hc : isL (T (p + i)) = true := by simpa using a1.2
          have hb : isN (seg T p (i + 1)) := by
            refine isNb_N ?_
            unfold isNb
            rw [seg_len, es, List.all_append, a1.1]
            simp [hc]
            omega
          have hlt := enc_8 hb
          rw [es, enc_app] at hlt ⊢
          rw [hl a1.1 (by omega), nI_l (by omega), sh8, or8 (by omega) (by omega)]
          rfl)
        rw [Nat.add_assoc p i 1] at *
        refine ⟨τ, ?_, Fr.trans F2 t2 (by intro c k h; unfold rq; omega) (fun _ _ h => h), t3, t4, t5, t6.trans (F2.2 3 6 (by omega)).1, t7.trans (F2.2 3 7 (by omega)).1, t8.trans (F2.2 3 11 (by omega)).1⟩
        unfold fX4_scanRun_b90
        rw [u_fJ3 S1, bs, u_pJ3 S1, bs, u_fI3 (q_sJ S1 _ _ _), bs, rdIJ, (F1.2 3 8 (by omega)).1, e8, u_pI3 (q_sJ S1 _ _ _), bs, nI_1, bd_, nI_1]
        exact t1
      cases hd : isD (T (p + i)) with
      | true =>
        rw [if_pos rfl, if_neg (by decide)]
        unfold fX4_scanRun_b66
        have S1 := q_sI hS 3 10 (gI σ 3 10 * 10 + (nI (T (p + i)) - 48))
        have F1 : Fr (fun c k => c = 3 ∧ k = 10) σ (sI σ 3 10 (gI σ 3 10 * 10 + (nI (T (p + i)) - 48))) := Fr.cI (Fr.refl hS) (by omega)
        have hd' := hd
        unfold isD at hd'
        simp only [Bool.and_eq_true, decide_eq_true_eq] at hd'
        rw [if_neg (by decide), bd_, u_fI3 hS, bs, u_pI3 hS, bs, nI_1]
        rw [ed, if_pos hd] at step
        refine step _ F1 (fun a1 a2 => ?_) (by simp [hd])
        rw [es, List.all_append, Bool.and_eq_true] at a1
        rw [gI_sI1, hn a1.1 (by omega), es, enc_app, w_10, pk_mul, w_48, pk_sub (by omega), nI_add]
      | false =>
        rw [if_neg (show ¬ (false = true) by decide), if_pos rfl, (wIn hT σ).2, b2s]
        cases hl' : isL (T (p + i)) with
        | true =>
          rw [if_pos rfl, if_neg (by decide)]
          unfold fX4_scanRun_b66
          rw [if_pos rfl]
          rw [ed, if_neg (by rw [hd]; decide), Nat.add_zero] at step
          refine step σ (Fr.refl hS) (fun a1 a2 => ?_) (by simp [hl'])
          rw [es, List.all_append, Bool.and_eq_true] at a1
          exact absurd a1.2 (by simp [hd])
        | false =>
          rw [if_neg (show ¬ (false = true) by decide), if_pos rfl]
          have e2 : ren T L (k + 1) (p + i) - p = i := by
            rw [e, if_neg (by simp [hd, hl'])]
            omega
          rw [e2]
          exact ⟨σ, rfl, Fr.refl hS, e8, hn, hl, rfl, rfl, rfl⟩
    · have e2 : ren T L (k + 1) (p + i) - p = i := by
        rw [e, if_neg (fun z => c z.1)]
        omega
      rw [e2, if_pos (nI_le (by omega) (by omega))]
      exact ⟨σ, rfl, Fr.refl hS, e8, hn, hl, rfl, rfl, rfl⟩
def wI_ (w : Nat) : Int32 := if w = 12 then -1 else nI w
def kI_ (k : Nat) : Int32 := if k = 0 then -1 else nI k
theorem wOf {l : List Nat} (h : isN l) (σ : Mem) : fX4_wordOf (lN (enc 256 0 l 0)) σ = some (wI_ (wd l), σ) := by
  have st (k N : Nat) (wk : List Nat) (hk : k < 10) (h1 : wLet k = lN (enc 256 0 wk 0)) (h2 : isN wk) : fX4_wordOf_b2 (N + 1) (lN (enc 256 0 l 0)) (nI k) σ = if l = wk then some (nI k, σ) else fX4_wordOf_b2 N (lN (enc 256 0 l 0)) (nI (k + 1)) σ := by
    rw [fX4_wordOf_b2, w_10, if_neg (nI_ge hk (by decide))]
    have e : aW (nI k) = some (wLet k) := by
      unfold aW
      rw [if_neg (vp_in_nI hk (by decide)), nI_clamp (by omega)]
    rw [e, bs, h1]
    by_cases c : l = wk
    · rw [if_pos c, if_pos (by rw [c])]
    · rw [if_neg c, if_neg (fun z => c ((e8_i h2 h).mp z).symm), bd_, nI_1]
  have iN : ∀ l : List Nat, isNb l = true → isN l := fun l h => isNb_N h
  show fX4_wordOf_b2 (999989 + 1 + 1 + 1 + 1 + 1 + 1 + 1 + 1 + 1 + 1 + 1) (lN (enc 256 0 l 0)) (nI 0) σ = _
  rw [st 0 _ [112, 108, 97, 110] (by decide) (by decide) (iN _ (by decide)), st 1 _ [102, 101, 101] (by decide) (by decide) (iN _ (by decide)), st 2 _ [116, 101, 114, 109] (by decide) (by decide) (iN _ (by decide)), st 3 _ [102, 114, 111, 109] (by decide) (by decide) (iN _ (by decide)), st 4 _ [117, 110, 116, 105, 108] (by decide) (by decide) (iN _ (by decide)), st 5 _ [102, 111, 114] (by decide) (by decide) (iN _ (by decide)), st 6 _ [102, 114, 101, 101] (by decide) (by decide) (iN _ (by decide)), st 7 _ [116, 111] (by decide) (by decide) (iN _ (by decide)), st 8 _ [97, 116] (by decide) (by decide) (iN _ (by decide)), st 9 _ [114, 101, 115, 116] (by decide) (by decide) (iN _ (by decide))]
  have e10 : fX4_wordOf_b2 (999989 + 1) (lN (enc 256 0 l 0)) (nI (9 + 1)) σ = some (-1, σ) := by
    rw [fX4_wordOf_b2, if_pos (by decide)]
    rfl
  rw [e10]
  have ew : wd l = if l = [112, 108, 97, 110] then 0 else if l = [102, 101, 101] then 1 else if l = [116, 101, 114, 109] then 2 else if l = [102, 114, 111, 109] then 3 else if l = [117, 110, 116, 105, 108] then 4 else if l = [102, 111, 114] then 5 else if l = [102, 114, 101, 101] then 6 else if l = [116, 111] then 7 else if l = [97, 116] then 8 else if l = [114, 101, 115, 116] then 9 else 12 := rfl
  rw [ew]
  repeat' split
  all_goals rfl
/-- what the class knows of a token -/
def SC (τ : Mem) (t : TK) : Prop := gI τ 3 7 = nI t.2.2.1 ∧ gI τ 3 8 = nI (t.2.2.2.1 - t.2.2.1) ∧ gI τ 3 11 = wI_ t.1 ∧ gI τ 3 6 = kI_ t.2.1 ∧ (t.2.1 = 1 → gJ τ 3 9 = lN (enc 256 0 t.2.2.2.2.2 0)) ∧ (t.2.1 = 2 → gI τ 3 10 = nI t.2.2.2.2.1)
theorem scn {σ : Mem} {L pos x y : Nat} {T : Nat → Nat} (hS : ST σ) (ht : tp σ L T) (hp : pos ≤ L) (e7 : gI σ 3 7 = nI x) (e8 : gI σ 3 8 = nI y) (hxy : x + y = pos) : ∃ τ, fX4_scan 3 σ = some τ ∧ Fr rq σ τ ∧ SC τ (tok T L pos) := by
  have hL := ht.1
  obtain ⟨s1, s2, -, -⟩ := skb_f (T := T) (L := L) 840 pos hp (by omega)
  have st : fX4_scan 3 σ = fX4_scan_b41 3 (nI (skb T L 840 pos)) σ := by
    unfold fX4_scan
    rw [u_fI3 hS, bs, u_fI3 hS, bs, e7, e8, nI_add, hxy, bd_, sk10 hS ht 840 pos FU hp (by omega) (by unfold FU; omega)]
  rw [st]
  unfold tok
  generalize skb T L 840 pos = p at *
  have pl : (if 800 < nI p then (800 : Int32) else nI p) = nI (min p 800) := by
    by_cases c : 800 < p
    · rw [w_800, if_pos (nI_lt c (by omega)), Nat.min_eq_right (by omega)]
    · rw [w_800, if_neg (nI_nlt (by omega) (by omega)), Nat.min_eq_left (by omega)]
  have S4 := q_sI (q_sI (q_sI (q_sI hS 3 7 (nI (min p 800))) 3 8 0) 3 6 (-1)) 3 11 (-1)
  have F4 : Fr rq σ (sI (sI (sI (sI σ 3 7 (nI (min p 800))) 3 8 0) 3 6 (-1)) 3 11 (-1)) := Fr.cI (Fr.cI (Fr.cI (Fr.cI (Fr.refl hS) (by unfold rq; omega)) (by unfold rq; omega)) (by unfold rq; omega)) (by unfold rq; omega)
  have b41 : fX4_scan_b41 3 (nI p) σ = if 800 < L ∧ 800 ≤ p then some (sI (sI (sI (sI σ 3 7 (nI (min p 800))) 3 8 0) 3 6 (-1)) 3 11 (-1)) else fX4_scan_b88 3 (nI p) (sI (sI (sI (sI σ 3 7 (nI (min p 800))) 3 8 0) 3 6 (-1)) 3 11 (-1)) := by
    unfold fX4_scan_b41
    rw [pl, u_pI3 hS, bs, u_pI3 (q_sI hS _ _ _), bs, u_pI3 (q_sI (q_sI hS _ _ _) _ _ _), bs, u_pI3 (q_sI (q_sI (q_sI hS _ _ _) _ _ _) _ _ _), bs, w_800]
    by_cases c1 : p < 800
    · rw [if_pos (nI_lt c1 (by decide)), if_neg (by omega)]
    · rw [if_neg (nI_nlt (by omega) (by omega)), u_R3_0 S4, bs, u_fI1 S4, bs, (F4.2 1 1 (by unfold rq; omega)).1, ht.2.1]
      by_cases c2 : L ≤ 800
      · rw [if_pos (nI_le c2 (by decide)), if_neg (by omega)]
      · rw [if_neg (nI_ge (by omega) (by omega)), if_pos (by omega)]
  rw [b41]
  have ht4 := tp_fr F4 (by unfold rq; omega) (by unfold rq; omega) ht
  generalize hσ4 : sI (sI (sI (sI σ 3 7 (nI (min p 800))) 3 8 0) 3 6 (-1)) 3 11 (-1) = σ4 at *
  have g7 : gI σ4 3 7 = nI (min p 800) := by rw [← hσ4]; simp [rdI]
  have g8 : gI σ4 3 8 = 0 := by rw [← hσ4]; simp [rdI]
  have g6 : gI σ4 3 6 = -1 := by rw [← hσ4]; simp [rdI]
  have g11 : gI σ4 3 11 = -1 := by rw [← hσ4]; simp [rdI]
  unfold tokA
  by_cases c1 : 800 < L ∧ 800 ≤ p
  · rw [if_pos c1, if_pos c1]
    refine ⟨σ4, rfl, F4, ?_, g8, g11, g6, (fun h => by cases h), (fun h => by cases h)⟩
    rw [g7, Nat.min_eq_right c1.2]
  · rw [if_neg c1, if_neg c1]
    unfold fX4_scan_b88
    rw [u_R3_0 S4, bs, u_fI1 S4, bs, ht4.2.1]
    by_cases c2 : L ≤ p
    · rw [if_neg (nI_nlt c2 (by omega)), if_pos c2, u_pI3 S4, bs]
      refine ⟨_, rfl, Fr.cI F4 (by unfold rq; omega), ?_, ?_, ?_, ?_, (fun h => by cases h), (fun h => by cases h)⟩
      · rw [gI_sI2 (by omega), g7, Nat.min_eq_left (by omega)]
      · rw [gI_sI2 (by omega), g8]
        show (0 : Int32) = nI (p - p)
        rw [Nat.sub_self]; rfl
      · exact gI_sI1
      · rw [gI_sI2 (by omega), g6]; rfl
    · have mp : min p 800 = p := Nat.min_eq_left (by omega)
      have hT := (ht4.2.2 p (by omega)).1
      rw [if_pos (nI_lt (by omega) (by omega)), if_neg c2, bs, u_kT1 S4, bs, byA S4 ht4 (by omega), b2s]
      by_cases c3 : T p = 59
      · rw [if_pos (by rw [c3]; rfl), if_pos c3, u_pI3 S4, bs, u_pI3 (q_sI S4 _ _ _), bs]
        refine ⟨_, rfl, Fr.cI (Fr.cI F4 (by unfold rq; omega)) (by unfold rq; omega), ?_, ?_, ?_, ?_, (fun h => by cases h), (fun h => by cases h)⟩
        · rw [gI_sI2 (by omega), gI_sI2 (by omega), g7, mp]
        · rw [gI_sI1]
          show (1 : Int32) = nI (p + 1 - p)
          rw [Nat.add_sub_cancel_left]; rfl
        · rw [gI_sI2 (by omega), gI_sI1]; rfl
        · rw [gI_sI2 (by omega), gI_sI2 (by omega), g6]; rfl
      · rw [if_neg (by rw [w_59, nI_eq (by omega) (by decide)]; exact c3), if_neg c3, u_kT3 S4, bs]
        obtain ⟨r1, r2, r3, -⟩ := ren_f (T := T) (L := L) 840 p (by omega) (by omega)
        have S6 := q_sI (q_sJ S4 3 9 0) 3 10 0
        have F6 : Fr rq σ4 (sI (sJ σ4 3 9 0) 3 10 0) := Fr.cI (Fr.cJ (Fr.refl S4) (by unfold rq; omega)) (by unfold rq; omega)
        obtain ⟨τ, t1, t2, t3, t4, t5, t6, t7, t8⟩ := sr17 (L := L) (p := p) (T := T) 840 0 FU _ S6 (tp_fr F6 (by unfold rq; omega) (by unfold rq; omega) ht4) (by omega) (by omega) (by unfold FU; omega) (by rw [gI_sI2 (by omega), rdIJ, g8]; rfl) (fun j hj => by omega) (fun _ _ => gI_sI1) (fun _ _ => by rw [rdJI, gJ_sJ1]; rfl)
        rw [Nat.add_zero] at t1 t3 t4 t5
        rw [gI_sI2 (by omega), rdIJ, g6] at t6
        rw [gI_sI2 (by omega), rdIJ, g7, mp] at t7
        rw [gI_sI2 (by omega), rdIJ, g11] at t8
        have run : fX4_scanRun 3 σ4 = fX4_scanRun_b120 3 (nI (dc T p (ren T L 840 p - p))) τ := by
          unfold fX4_scanRun
          rw [u_pJ3 S4, bs, u_pI3 (q_sJ S4 _ _ _), bs, u_fI3 S6, bs, gI_sI2 (by omega), rdIJ, g7, mp]
          exact t1
        have F : Fr rq σ τ := Fr.tr F4 (Fr.tr F6 t2)
        obtain ⟨d1, d2, d3⟩ := dc_f (T := T) (p := p) (ren T L 840 p - p) (fun i hi => r3 (p + i) (by omega) (by omega))
        have sl := seg_len T p (ren T L 840 p - p)
        have nb : isNb (seg T p (ren T L 840 p - p)) = true ↔ dc T p (ren T L 840 p - p) = 0 ∧ 1 ≤ ren T L 840 p - p ∧ ren T L 840 p - p ≤ 8 := by
          unfold isNb
          simp only [Bool.and_eq_true, decide_eq_true_eq, sl]
          rw [d3]
          constructor
          · rintro ⟨⟨h1, h2⟩, h3⟩; exact ⟨h3, h1, h2⟩
          · rintro ⟨h3, h1, h2⟩; exact ⟨⟨h1, h2⟩, h3⟩
        have mb : isMb (seg T p (ren T L 840 p - p)) = true ↔ dc T p (ren T L 840 p - p) = ren T L 840 p - p ∧ 1 ≤ ren T L 840 p - p ∧ ren T L 840 p - p ≤ 6 := by
          unfold isMb
          simp only [Bool.and_eq_true, decide_eq_true_eq, sl]
          rw [d2]
          constructor
          · rintro ⟨⟨h1, h2⟩, h3⟩; exact ⟨h3, h1, h2⟩
          · rintro ⟨h3, h1, h2⟩; exact ⟨⟨h1, h2⟩, h3⟩
        generalize ren T L 840 p = q at *
        rw [run]
        have b156 (hn : ¬ isNb (seg T p (q - p)) = true) : ∃ υ, ((fX4_scanRun_b156 3 (nI (dc T p (q - p))) τ).bind fun m10 => fX4_scan_b139 m10) = some υ ∧ Fr rq σ υ ∧ SC υ (if isMb (seg T p (q - p)) = true then (12, 2, p, q, enc 10 48 (seg T p (q - p)) 0, []) else (12, 0, p, q, 0, [])) := by
          unfold fX4_scanRun_b156
          rw [u_fI3 t2.1, bs, t3]
          by_cases c5 : isMb (seg T p (q - p)) = true
          · obtain ⟨m1, m2, m3⟩ := mb.mp c5
            rw [if_pos c5, if_pos (by rw [m1]), bs, w_1, w_6, iwN (by omega) (by decide) (by decide), if_pos (by omega), b2s, if_neg (by decide), u_pI3 t2.1, bs]
            refine ⟨_, rfl, Fr.cI F (by unfold rq; omega), ?_, ?_, ?_, ?_, fun h => absurd h (by decide : ¬ (2 : Nat) = 1), fun _ => ?_⟩
            · rw [gI_sI2 (by omega)]; exact t7
            · rw [gI_sI2 (by omega)]; exact t3
            · rw [gI_sI2 (by omega), t8]; rfl
            · exact gI_sI1
            · rw [gI_sI2 (by omega)]; exact t4 (d2.mp m1) m3
          · rw [if_neg c5]
            have fin : ∃ υ, ((fX4_scanRun_b182 τ).bind fun m10 => fX4_scan_b139 m10) = some υ ∧ Fr rq σ υ ∧ SC υ (12, 0, p, q, 0, []) := ⟨τ, rfl, F, t7, t3, t8, t6, (fun h => by cases h), (fun h => by cases h)⟩
            by_cases c6 : dc T p (q - p) = q - p
            · rw [if_pos (by rw [c6]), bs, w_1, w_6, iwN (by omega) (by decide) (by decide), if_neg (fun z => c5 (mb.mpr ⟨c6, z.1, z.2⟩)), b2s, if_pos rfl]
              exact fin
            · rw [if_neg (by rw [nI_eq (by omega) (by omega)]; exact c6)]
              exact fin
        unfold fX4_scanRun_b120
        by_cases c4 : isNb (seg T p (q - p)) = true
        · obtain ⟨m1, m2, m3⟩ := nb.mp c4
          have hw := isNb_N c4
          rw [if_pos c4, if_pos (by rw [m1]; rfl), u_fI3 t2.1, bs, t3, w_1, w_8, iwN (by omega) (by decide) (by decide), if_pos (by omega), b2s, if_neg (by decide), u_pI3 t2.1, bs, u_fJ3 (q_sI t2.1 _ _ _), bs, rdJI, t5 (d3.mp m1) m3, wOf hw, b2s, u_pI3 (q_sI t2.1 _ _ _), bs]
          refine ⟨_, rfl, Fr.cI (Fr.cI F (by unfold rq; omega)) (by unfold rq; omega), ?_, ?_, ?_, ?_, fun _ => ?_, fun h => absurd h (by decide : ¬ (1 : Nat) = 2)⟩
          · rw [gI_sI2 (by omega), gI_sI2 (by omega)]; exact t7
          · rw [gI_sI2 (by omega), gI_sI2 (by omega)]; exact t3
          · exact gI_sI1
          · rw [gI_sI2 (by omega), gI_sI1]; rfl
          · rw [rdJI, rdJI]; exact t5 (d3.mp m1) m3
        · rw [if_neg c4]
          by_cases c5 : dc T p (q - p) = 0
          · rw [if_pos (by rw [c5]; rfl), u_fI3 t2.1, bs, t3, w_1, w_8, iwN (by omega) (by decide) (by decide), if_neg (fun z => c4 (nb.mpr ⟨c5, z.1, z.2⟩)), b2s, if_pos rfl]
            exact b156 c4
          · rw [if_neg (nI_ne0 (by omega) (by omega))]
            exact b156 c4
