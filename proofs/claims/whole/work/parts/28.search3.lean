/-! the search whole, and the row it writes -/
theorem FC_c {g : GD} {b m p : Nat} {σ τ : Mem} (h1 : gJ τ 152 (m * 10 + p) = gJ σ 152 (m * 10 + p)) (h2 : gI τ 153 (m * 10 + p) = gI σ 153 (m * 10 + p)) (h : FC g b σ m p) : FC g b τ m p := by
  unfold FC at h ⊢
  rw [h1, h2]
  exact h
def BT (g : GD) (b : Nat) (σ : Mem) (m q : Nat) : Prop := ∃ o, Lst (BG g b m q) o ∧ gJ σ 151 (m * 10 + q) = cst o
theorem sB1 {B a b h m : Nat} {w : WD} {rc : Nat → (Option Nat) → Int32 → Int32 → Int32 → Mem → Option (Int64 × Mem)} {X Y : Int32} (hw : okW w) (hmb : m < b) (hb24 : b ≤ 24) (n : Nat) : ∀ p σ, SB σ B w a b → (∀ i q, m ≤ i → i < b → q < w.1 → mcv (gdOf w h) q i (gJ σ 150 (i * 10 + q))) → (∀ i q, m < i → i < b → q < w.1 → FC (gdOf w h) b σ i q) → (∀ q, q < p → BT (gdOf w h) b σ m q) → p ≤ w.1 → w.1 < p + n → ∃ τ, fX5_search_b59 rc n 149 (some 146) X Y (nI m) (nI p) σ = fX5_search_b85 rc 149 (some 146) X Y (nI m) τ ∧ Fr (fun c _ => c = 151) σ τ ∧ ∀ q, q < w.1 → BT (gdOf w h) b τ m q := by
  have hP := hw.1
  induction n with
  | zero => intro p σ _ _ _ _ hq hn; omega
  | succ n ih =>
    intro p σ hB hM hF hT hq hn
    have hB' := hB
    obtain ⟨hS, ⟨hb, a2, a3, -, -⟩, e4, -, -⟩ := hB'
    have hd0 : fX5_search_b59 rc (n + 1) 149 (some 146) X Y (nI m) (nI p) σ = ((fR σ 5 4 (some 149)).bind fun t1 => (fI σ 3 1 t1).bind fun t2 => if t2 ≤ nI p then fX5_search_b85 rc 149 (some 146) X Y (nI m) σ else (kT σ 5 (some 149)).bind fun k4 => (fX5_fillBegun k4 (nI p) (nI m) σ).bind fun m5 => bd (nI p + 1) fun t6 => (fX5_search_b59 rc n) 149 (some 146) X Y (nI m) t6 m5) := rfl
    rw [hd0, u_R149_4 hS, bs, e4, v_fIB hS hb, bs, a2]
    by_cases c : p < w.1
    · obtain ⟨o, o1, o2⟩ := fB (h := h) hw hB c hmb hb24 (fun i i1 i2 => hM i p i1 i2 c) (fun i i1 i2 => FC_T (hF i p i1 i2 c))
      rw [if_neg (nI_ge c (by omega)), u_kT149 hS, bs, o2, bs, bd_, nI_1]
      have F : Fr (fun c _ => c = 151) σ (sJ σ 151 (m * 10 + p) (cst o)) := Fr.cJ (Fr.refl hS) rfl
      obtain ⟨τ, t1, t2, t3⟩ := ih (p + 1) _ (SB_Fr F hw (by intro c k h; omega) hB) (fun i q i1 i2 q1 => by rw [gJ_sJ2 (by omega)]; exact hM i q i1 i2 q1) (fun i q i1 i2 q1 => FC_c (gJ_sJ2 (by omega)) rfl (hF i q i1 i2 q1)) (fun q hq => by
        by_cases e : q = p
        · subst e; exact ⟨o, o1, gJ_sJ1⟩
        · obtain ⟨o', k1, k2⟩ := hT q (by omega)
          exact ⟨o', k1, by rw [gJ_sJ2 (by omega)]; exact k2⟩) (by omega) (by omega)
      exact ⟨τ, t1, Fr.tr F t2, t3⟩
    · rw [if_pos (nI_le (by omega) (by omega))]
      exact ⟨σ, rfl, Fr.refl hS, fun q hq => hT q (by omega)⟩
theorem sF1 {B a b h m : Nat} {w : WD} {rc : Nat → (Option Nat) → Int32 → Int32 → Int32 → Mem → Option (Int64 × Mem)} {X : Int32} (hw : okW w) (hmb : m < b) (hb24 : b ≤ 24) (n : Nat) : ∀ p σ, SB σ B w a b → (∀ q, q < w.1 → mcv (gdOf w h) q m (gJ σ 150 (m * 10 + q))) → (∀ q, m + 1 < b → q < w.1 → FC (gdOf w h) b σ (m + 1) q) → (∀ q, q < w.1 → BT (gdOf w h) b σ m q) → (∀ q, q < p → FC (gdOf w h) b σ m q) → p ≤ w.1 → w.1 < p + n → ∃ τ, fX5_search_b88 rc n 149 (some 146) X (nI w.2.2.2) (nI m) (nI p) σ = fX5_search_b116 rc 149 (some 146) X (nI w.2.2.2) (nI m) τ ∧ Fr (fun c _ => c = 152 ∨ c = 153) σ τ ∧ (∀ q, q < w.1 → FC (gdOf w h) b τ m q) ∧ ∀ j, m * 10 + 10 ≤ j → gJ τ 152 j = gJ σ 152 j ∧ gI τ 153 j = gI σ 153 j := by
  have hP := hw.1
  induction n with
  | zero => intro p σ _ _ _ _ _ hq hn; omega
  | succ n ih =>
    intro p σ hB hM hF hG hT hq hn
    have hB' := hB
    obtain ⟨hS, ⟨hb, a2, a3, -, -⟩, e4, -, -⟩ := hB'
    have hd0 : fX5_search_b88 rc (n + 1) 149 (some 146) X (nI w.2.2.2) (nI m) (nI p) σ = ((fR σ 5 4 (some 149)).bind fun t1 => (fI σ 3 1 t1).bind fun t2 => if t2 ≤ nI p then fX5_search_b116 rc 149 (some 146) X (nI w.2.2.2) (nI m) σ else (kT σ 5 (some 149)).bind fun k4 => (fX5_fillFreed k4 (nI p) (nI m) (nI w.2.2.2) σ).bind fun m5 => bd (nI p + 1) fun t6 => (fX5_search_b88 rc n) 149 (some 146) X (nI w.2.2.2) (nI m) t6 m5) := rfl
    rw [hd0, u_R149_4 hS, bs, e4, v_fIB hS hb, bs, a2]
    by_cases c : p < w.1
    · obtain ⟨v, ch, o1, o2⟩ := fF (h := h) hw hB c hmb hb24 (hM p c) (fun k => FC_T (hF p k c)) hG
      rw [if_neg (nI_ge c (by omega)), u_kT149 hS, bs, o1, bs, bd_, nI_1]
      have F : Fr (fun c _ => c = 152 ∨ c = 153) σ (sI (sJ σ 152 (m * 10 + p) v) 153 (m * 10 + p) ch) := Fr.cI (Fr.cJ (Fr.refl hS) (by simp)) (by simp)
      have un (j : Nat) (hj : j ≠ m * 10 + p) : gJ (sI (sJ σ 152 (m * 10 + p) v) 153 (m * 10 + p) ch) 152 j = gJ σ 152 j ∧ gI (sI (sJ σ 152 (m * 10 + p) v) 153 (m * 10 + p) ch) 153 j = gI σ 153 j := ⟨by rw [rdJI, gJ_sJ2 (by omega)], by rw [gI_sI2 (by omega), rdIJ]⟩
      obtain ⟨τ, t1, t2, t3, t4⟩ := ih (p + 1) _ (SB_Fr F hw (by intro c k h; omega) hB) (fun q q1 => by rw [rdJI, gJ_sJ2 (by omega)]; exact hM q q1) (fun q k q1 => FC_c (un _ (by omega)).1 (un _ (by omega)).2 (hF q k q1)) (fun q q1 => by
        obtain ⟨o, g1, g2⟩ := hG q q1
        exact ⟨o, g1, by rw [rdJI, gJ_sJ2 (by omega)]; exact g2⟩) (fun q hq => by
        by_cases e : q = p
        · subst e; exact o2
        · exact FC_c (un _ (by omega)).1 (un _ (by omega)).2 (hT q (by omega))) (by omega) (by omega)
      exact ⟨τ, t1, Fr.tr F t2, t3, fun j hj => ⟨(t4 j hj).1.trans (un j (by omega)).1, (t4 j hj).2.trans (un j (by omega)).2⟩⟩
    · rw [if_pos (nI_le (by omega) (by omega))]
      exact ⟨σ, rfl, Fr.refl hS, fun q hq => hT q (by omega), fun _ _ => ⟨rfl, rfl⟩⟩
theorem m1_lt {a : Nat} (h : a < 2 ^ 30) : nI a + (-1) < nI a := by
  rw [show nI a + (-1) = nI a - nI 1 from (Int32.sub_eq_add_neg ..).symm, Int32.lt_iff_toInt_lt, pk_sub_toInt h (by decide), nI_toInt (by omega)]
  omega
theorem sL {B a b h : Nat} {w : WD} (hw : okW w) (hh : h < 16) (hab : a < b) (hb24 : b ≤ 24) (n : Nat) : ∀ M σ, a ≤ M → M ≤ b → M < a + n → SB σ B w a b → (∀ i q, M ≤ i → i < b → q < w.1 → mcv (gdOf w h) q i (gJ σ 150 (i * 10 + q))) → (∀ i q, M ≤ i → i < b → q < w.1 → FC (gdOf w h) b σ i q) → (M < b → ∀ q, q < w.1 → BT (gdOf w h) b σ M q) → ∃ τ, fX5_search_b34 n 149 (some 146) (nI h) (nI w.2.2.2) (nI M + (-1)) σ = fX5_search_b122 149 τ ∧ Fr (fun c _ => c = 148 ∨ (150 ≤ c ∧ c ≤ 153)) σ τ ∧ (∀ i q, a ≤ i → i < b → q < w.1 → FC (gdOf w h) b τ i q) ∧ ∀ q, q < w.1 → BT (gdOf w h) b τ a q := by
  have hP := hw.1
  induction n with
  | zero => intro M σ _ _ hn; omega
  | succ n ih =>
    intro M σ h1 h2 h3 hB hM hF hG
    have hB' := hB
    obtain ⟨hS, ⟨hb, a2, a3, a4, -⟩, e4, e5, e6⟩ := hB'
    have hd0 : fX5_search_b34 (n + 1) 149 (some 146) (nI h) (nI w.2.2.2) (nI M + (-1)) σ = ((fI σ 5 5 (some 149)).bind fun t1 => if nI M + (-1) < t1 then fX5_search_b122 149 σ else (kT σ 7 (some 146)).bind fun k3 => b2 (fX7_together k3 (nI h) (nI M + (-1)) σ) fun t4 m5 => (kT m5 5 (some 149)).bind fun k6 => (fX5_fillMonthCents k6 t4 (nI M + (-1)) m5).bind fun m7 => fX5_search_b59 (fX5_search_b34 n) FU 149 (some 146) (nI h) (nI w.2.2.2) (nI M + (-1)) 0 m7) := rfl
    rw [hd0, u_fI149 hS, bs, e5]
    by_cases c : a < M
    · obtain ⟨m, rfl⟩ : ∃ m, M = m + 1 := ⟨M - 1, by omega⟩
      obtain ⟨τ1, t1, t2, t3⟩ := tgC (h := h) (m := m) hS a4 hh (by omega)
      have B1 := SB_Fr t2 hw (by intro c k h; omega) hB
      obtain ⟨τ2, u1, u2, u3, u4⟩ := fM1 (h := h) (m := m) hw hh (by omega) FU 0 τ1 B1 t3 (by omega) (by unfold FU; omega)
      have B2 := SB_Fr u2 hw (by intro c k h; omega) B1
      have F12 : Fr (fun c _ => c = 148 ∨ c = 150) σ τ2 := Fr.trans t2 u2 (by intro c k h; omega) (by intro c k h; omega)
      have M2 : ∀ i q, m ≤ i → i < b → q < w.1 → mcv (gdOf w h) q i (gJ τ2 150 (i * 10 + q)) := by
        intro i q i1 i2 q1
        by_cases e : i = m
        · subst e; exact u3 q (Nat.zero_le _) q1
        · rw [u4 _ (by omega), (t2.2 150 _ (by simp)).2.1]
          exact hM i q (by omega) i2 q1
      have F2 : ∀ i q, m < i → i < b → q < w.1 → FC (gdOf w h) b τ2 i q := fun i q i1 i2 q1 => FC_c (F12.2 152 _ (by simp)).2.1 (F12.2 153 _ (by simp)).1 (hF i q (by omega) i2 q1)
      obtain ⟨τ3, v1, v2, v3⟩ := sB1 (rc := fX5_search_b34 n) (X := nI h) (Y := nI w.2.2.2) hw (by omega) hb24 FU 0 τ2 B2 M2 F2 (fun q hq => by omega) (by omega) (by unfold FU; omega)
      have B3 := SB_Fr v2 hw (by intro c k h; omega) B2
      have M3 : ∀ i q, m ≤ i → i < b → q < w.1 → mcv (gdOf w h) q i (gJ τ3 150 (i * 10 + q)) := fun i q i1 i2 q1 => by rw [(v2.2 150 _ (by simp)).2.1]; exact M2 i q i1 i2 q1
      have F3 : ∀ i q, m < i → i < b → q < w.1 → FC (gdOf w h) b τ3 i q := fun i q i1 i2 q1 => FC_c (v2.2 152 _ (by simp)).2.1 (v2.2 153 _ (by simp)).1 (F2 i q i1 i2 q1)
      obtain ⟨τ4, x1, x2, x3, x4⟩ := sF1 (rc := fX5_search_b34 n) (X := nI h) hw (by omega) hb24 FU 0 τ3 B3 (fun q q1 => M3 m q (by omega) (by omega) q1) (fun q k q1 => F3 (m + 1) q (by omega) k q1) v3 (fun q hq => by omega) (by omega) (by unfold FU; omega)
      have B4 := SB_Fr x2 hw (by intro c k h; omega) B3
      obtain ⟨τ, y1, y2, y3, y4⟩ := ih m τ4 (by omega) (by omega) (by omega) B4 (fun i q i1 i2 q1 => by rw [(x2.2 150 _ (by simp)).2.1]; exact M3 i q i1 i2 q1) (fun i q i1 i2 q1 => by
        by_cases e : i = m
        · subst e; exact x3 q q1
        · exact FC_c (x4 _ (by omega)).1 (x4 _ (by omega)).2 (F3 i q (by omega) i2 q1)) (fun _ q q1 => by
        obtain ⟨o, o1, o2⟩ := v3 q q1
        exact ⟨o, o1, by rw [(x2.2 151 _ (by simp)).2.1]; exact o2⟩)
      refine ⟨τ, ?_, ?_, y3, y4⟩
      · rw [pk_m1, if_neg (nI_nlt (by omega) (by omega)), u_kT146 hS, bs, t1, b2s, u_kT149 t2.1, bs]
        unfold fX5_fillMonthCents
        rw [show (0 : Int32) = nI 0 from rfl, u1, bs, v1]
        unfold fX5_search_b85
        rw [show (0 : Int32) = nI 0 from rfl, x1]
        unfold fX5_search_b116
        rw [bd_]
        exact y1
      · exact Fr.trans (Fr.trans F12 v2 (r := fun c _ => c = 148 ∨ (150 ≤ c ∧ c ≤ 153)) (by intro c k h; omega) (by intro c k h; omega)) (Fr.trans x2 y2 (r := fun c _ => c = 148 ∨ (150 ≤ c ∧ c ≤ 153)) (by intro c k h; omega) (by intro c k h; omega)) (by intro c k h; omega) (by intro c k h; omega)
    · have e : M = a := by omega
      subst e
      rw [if_pos (m1_lt (by omega))]
      exact ⟨σ, rfl, Fr.refl hS, hF, hG hab⟩
theorem BG_d {g : GD} {b m q x : Nat} (hg : okG g) (hq : q < gP g) (hm : m < b) (hb : b ≤ 24) (h : BG g b m q x) : ∃ C r, x = C * 1000000000000000000000000 + (q * ee (m + 1) + r) ∧ r < ee (m + 1) ∧ C ≤ 100000000000 := by
  have h2 := hg.2.2.1 q m hq (by omega)
  obtain ⟨-, -, z, h5, rfl⟩ := (BG_x hg hq hm).mp h
  obtain ⟨C, D, e1, e2, e3⟩ := SP_b hg hb (b - (m + 1)) (m + 1) _ _ z (by omega) h5
  refine ⟨gC g q m + C, D, ?_, e2, ?_⟩
  · rw [Nat.add_mul]; omega
  · have : (b - (m + 1)) * 3200779999 ≤ 24 * 3200779999 := Nat.mul_le_mul_right _ (by omega)
    omega
theorem cFi1 {B a b h : Nat} {w : WD} (hw : okW w) (hab : a < b) (hb24 : b ≤ 24) (n : Nat) : ∀ q o σ, SB σ B w a b → (∀ i, i < w.1 → BT (gdOf w h) b σ a i) → q ≤ w.1 → w.1 < q + n → Lst (fun x => ∃ i, i < q ∧ BG (gdOf w h) b a i x) o → (∀ v, o = some v → ∃ i, i < w.1 ∧ BG (gdOf w h) b a i v ∧ gI σ 149 7 = nI i) → ∃ o' τ, fX5_chooseFirst_b6 n 149 (cst o) (nI q) σ = some (cst o', τ) ∧ Fr (fun c k => c = 149 ∧ k = 7) σ τ ∧ Lst (fun x => ∃ i, i < w.1 ∧ BG (gdOf w h) b a i x) o' ∧ ∀ v, o' = some v → ∃ i, i < w.1 ∧ BG (gdOf w h) b a i v ∧ gI τ 149 7 = nI i := by
  have hP := hw.1
  have hg := gd_ok (h := h) hw
  have sml : ∀ i x, i < w.1 → BG (gdOf w h) b a i x → x / 1000000000000000000000000 < 2 ^ 62 := fun i x hi hx => by
    obtain ⟨C, r, k1, k2, k3⟩ := BG_d hg hi hab hb24 hx
    have h1 : (i + 1) * ee (a + 1) ≤ 10 * ee (a + 1) := Nat.mul_le_mul_right _ (by omega)
    have h2 := ee10 (m := a) (by omega)
    rw [Nat.add_mul] at h1
    omega
  induction n with
  | zero => intro q o σ _ _ hq hn; omega
  | succ n ih =>
    intro q o σ hB hT hq hn hL hc
    have hB' := hB
    obtain ⟨hS, ⟨hb, a2, a3, -, -⟩, e4, e5, -⟩ := hB'
    have hd0 : fX5_chooseFirst_b6 (n + 1) 149 (cst o) (nI q) σ = ((fR σ 5 4 (some 149)).bind fun t1 => (fI σ 3 1 t1).bind fun t2 => if t2 ≤ nI q then fX5_chooseFirst_b55 (cst o) σ else (fR σ 5 1 (some 149)).bind fun t4 => (fI σ 5 5 (some 149)).bind fun t5 => b2 (fX5_slot t5 (nI q) σ) fun t6 m7 => (aJ m7 12 t4 t6).bind fun t8 => b2 (fX8_isCheaper t8 (cst o) m7) fun t9 m10 => if t9 = 0 then fX5_chooseFirst_b49 (fX5_chooseFirst_b6 n) 149 (cst o) (nI q) m10 else (pI m10 5 7 (some 149) (nI q)).bind fun m12 => fX5_chooseFirst_b49 (fX5_chooseFirst_b6 n) 149 t8 (nI q) m12) := rfl
    rw [hd0, u_R149_4 hS, bs, e4, v_fIB hS hb, bs, a2]
    by_cases c : q < w.1
    · obtain ⟨u, u1, u2⟩ := hT q c
      have hL' := bet_ok (E := ee (a + 1)) (ee10 (by omega)) (by omega) (fun i x hi hx => by
        obtain ⟨C, r, k1, k2, -⟩ := BG_d hg (show i < gP (gdOf w h) from (by omega : i < w.1)) hab hb24 hx
        exact ⟨C, r, k1, k2⟩) hL u1
      have keep (hL2 : Lst (fun x => ∃ i, i < q + 1 ∧ BG (gdOf w h) b a i x) o) : ∃ o' τ, fX5_chooseFirst_b49 (fX5_chooseFirst_b6 n) 149 (cst o) (nI q) σ = some (cst o', τ) ∧ Fr (fun c k => c = 149 ∧ k = 7) σ τ ∧ Lst (fun x => ∃ i, i < w.1 ∧ BG (gdOf w h) b a i x) o' ∧ ∀ v, o' = some v → ∃ i, i < w.1 ∧ BG (gdOf w h) b a i v ∧ gI τ 149 7 = nI i := by
        unfold fX5_chooseFirst_b49
        rw [bd_, nI_1]
        exact ih (q + 1) o σ hB hT (by omega) (by omega) hL2 hc
      have take (x : Nat) (hx : u = some x) (hL2 : Lst (fun x => ∃ i, i < q + 1 ∧ BG (gdOf w h) b a i x) u) : ∃ o' τ, ((pI σ 5 7 (some 149) (nI q)).bind fun m12 => fX5_chooseFirst_b49 (fX5_chooseFirst_b6 n) 149 (cst u) (nI q) m12) = some (cst o', τ) ∧ Fr (fun c k => c = 149 ∧ k = 7) σ τ ∧ Lst (fun x => ∃ i, i < w.1 ∧ BG (gdOf w h) b a i x) o' ∧ ∀ v, o' = some v → ∃ i, i < w.1 ∧ BG (gdOf w h) b a i v ∧ gI τ 149 7 = nI i := by
        have F : Fr (fun c k => c = 149 ∧ k = 7) σ (sI σ 149 7 (nI q)) := Fr.cI (Fr.refl hS) (by simp)
        rw [u_pI149 hS, bs]
        unfold fX5_chooseFirst_b49
        rw [bd_, nI_1]
        obtain ⟨o', τ, k1, k2, k3, k4⟩ := ih (q + 1) u _ (SB_Fr F hw (by intro c k h; omega) hB) (fun i hi => hT i hi) (by omega) (by omega) hL2 (fun v hv => ⟨q, c, by subst hv; exact u1.1, gI_sI1⟩)
        exact ⟨o', τ, k1, Fr.tr F k2, k3, k4⟩
      rw [if_neg (nI_ge c (by omega)), u_R149_1 hS, bs, u_fI149 hS, bs, e5, slt (by omega) (by omega), b2s, u_a151 hS (by omega), bs, u2, chp (fun v hv => by
        subst hv
        obtain ⟨i, i1, i2⟩ := hL.1
        exact sml i v (by omega) i2) (fun v hv => by subst hv; exact sml q v c u1.1), b2s]
      cases u with
      | none =>
        rw [show chv none o = 0 from rfl, if_pos rfl]
        exact keep hL'
      | some x =>
        cases o with
        | none =>
          rw [show chv (some x) none = 1 from rfl, if_neg (by decide)]
          exact take x rfl hL'
        | some y =>
          have e : bet (some x) (some y) = if x / 1000000000000000000000000 < y / 1000000000000000000000000 then some x else some y := rfl
          rw [e] at hL'
          by_cases cc : x / 1000000000000000000000000 < y / 1000000000000000000000000
          · rw [if_pos cc] at hL'
            rw [show chv (some x) (some y) = if x / 1000000000000000000000000 < y / 1000000000000000000000000 then 1 else 0 from rfl, if_pos cc, if_neg (by decide)]
            exact take x rfl hL'
          · rw [if_neg cc] at hL'
            rw [show chv (some x) (some y) = if x / 1000000000000000000000000 < y / 1000000000000000000000000 then 1 else 0 from rfl, if_neg cc, if_pos rfl]
            exact keep hL'
    · have e : q = w.1 := by omega
      subst e
      rw [if_pos (nI_le (Nat.le_refl _) (by omega))]
      exact ⟨o, σ, rfl, Fr.refl hS, hL, hc⟩
theorem srch {σ : Mem} {B a b h : Nat} {w : WD} (hS : ST σ) (hw : okW w) (h8 : H8 σ B w) (hh : h < 16) (hab : a < b) (hb24 : b ≤ 24) : ∃ o τ, fX5_search 149 (some B) (some 146) (nI h) (nI a) (nI b) (nI w.2.2.2) σ = some (cst o, τ) ∧ Fr (fun c _ => 148 ≤ c ∧ c ≤ 153) σ τ ∧ SB τ B w a b ∧ Lst (FP (gdOf w h) a b 0) o ∧ (∀ i q, a ≤ i → i < b → q < w.1 → FC (gdOf w h) b τ i q) ∧ ∀ v, o = some v → ∃ q, q < w.1 ∧ BG (gdOf w h) b a q v ∧ gI τ 149 7 = nI q := by
  have hg := gd_ok (h := h) hw
  have hP := hw.1
  have S1 : ST (sR σ 149 4 (some B)) := u_S149_4 hS
  have F0 : Fr (fun c _ => 148 ≤ c ∧ c ≤ 153) σ (sI (sI (sR σ 149 4 (some B)) 149 5 (nI a)) 149 6 (nI b)) := Fr.cI (Fr.cI (FrsR S1 (by omega)) (by omega)) (by omega)
  have B0 : SB (sI (sI (sR σ 149 4 (some B)) 149 5 (nI a)) 149 6 (nI b)) B w a b := by
    refine ⟨F0.1, H8_Fr F0 hw (fun c hc k q => by unfold inBk at hc; omega) (fun k q => by omega) (fun q => by omega) h8, ?_, ?_, gI_sI1⟩
    · show gR (sR σ 149 4 (some B)) 149 4 = some B
      exact gR_sR1
    · rw [gI_sI2 (by decide), gI_sI1]
  obtain ⟨τ, t1, t2, t3, t4⟩ := sL (h := h) hw hh hab hb24 FU b _ (by omega) (Nat.le_refl _) (by unfold FU; omega) B0 (fun i q i1 i2 => by omega) (fun i q i1 i2 => by omega) (fun k => by omega)
  have B1 := SB_Fr t2 hw (by intro c k h; omega) B0
  obtain ⟨o, υ, u1, u2, u3, u4⟩ := cFi1 (h := h) hw hab hb24 FU 0 none τ B1 t4 (by omega) (by unfold FU; omega) (by rintro x ⟨i, hi, -⟩; omega) (fun v hv => by cases hv)
  refine ⟨o, υ, ?_, ?_, SB_Fr u2 hw (by intro c k h; omega) B1, Lst_x (fun x => (FP_B hg hab).symm) u3, fun i q i1 i2 q1 => FC_c (u2.2 152 _ (by simp)).2.1 (u2.2 153 _ (by simp)).1 (t3 i q i1 i2 q1), u4⟩
  · unfold fX5_search
    rw [u_P149_4 hS, bs, if_neg (nI_pos (by omega)), u_pI149 S1, bs, w_24, if_neg (nI_nlt (by omega) (by decide)), u_pI149 (q_sI S1 _ _ _), bs, u_fI149 F0.1, bs, gI_sI1, bd_, Int32.sub_eq_add_neg, t1]
    unfold fX5_search_b122
    rw [u_kT149 t2.1, bs]
    unfold fX5_chooseFirst
    rw [show (0 : Int32) = nI 0 from rfl, show (-1 : Int64) = cst none from rfl, u1, b2s]
  · exact Fr.trans F0 (Fr.trans t2 u2 (r := fun c _ => 148 ≤ c ∧ c ≤ 153) (by intro c k h; omega) (by intro c k h; omega)) (by intro c k h; omega) (by intro c k h; omega)
/-! the row -/
theorem trmOf {σ : Mem} {B a b q : Nat} {w : WD} (hw : okW w) (hB : SB σ B w a b) (hq : q < w.1) : fX5_termOf 149 (nI q) σ = some (nI (w.2.1 q).2.1, σ) := by
  have hP := hw.1
  obtain ⟨hS, ⟨hb, a2, a3, -, -⟩, e4, -, -⟩ := hB
  unfold fX5_termOf
  rw [u_R149_4 hS, bs, e4, if_neg (by simp), bs, v_kTB hS hb, bs, atP hS hb hP a2 hq, b2s]
  unfold fX5_termOf_b19
  rw [if_neg (by simp), v_fIP hS hb (by omega), bs, (a3 q hq).2.1]
  rfl
theorem chAt {σ : Mem} {m p : Nat} (hS : ST σ) (hm : m < 24) (hp : p < 10) : fX5_choiceAt 149 (nI m) (nI p) σ = some (gI σ 153 (m * 10 + p), σ) := by
  unfold fX5_choiceAt
  rw [u_R149_3 hS, bs, slt hm hp, b2s, u_a153 hS (by omega), bs]
theorem wR1 {B a b h : Nat} {w : WD} (hw : okW w) (hb24 : b ≤ 24) (n : Nat) : ∀ m p k v σ, SB σ B w a b → (∀ i q, m ≤ i → i < b → q < w.1 → FC (gdOf w h) b σ i q) → Lst (SP (gdOf w h) b (b - m) p (k - m)) (some v) → p < w.1 → m ≤ b → k ≤ 100 → b < m + n → ∃ τ f C, fX5_writeRow_b22 n 149 (some 161) (nI p) (nI k) (nI m) σ = some τ ∧ Fr (fun c _ => c = 161) σ τ ∧ (∀ i, (i < m ∨ b ≤ i) → gI τ 161 i = gI σ 161 i) ∧ (∀ i, m ≤ i → i < b → f i < 10 ∧ gI τ 161 i = nI (f i)) ∧ v = C * 1000000000000000000000000 + cd f m (b - m) := by
  have hP := hw.1
  have hg := gd_ok (h := h) hw
  induction n with
  | zero => intro m p k v σ _ _ _ _ _ _ hn; omega
  | succ n ih =>
    intro m p k v σ hB hF hL hp hm hk hn
    have hB' := hB
    obtain ⟨hS, -, -, -, e6⟩ := hB'
    have hd0 : fX5_writeRow_b22 (n + 1) 149 (some 161) (nI p) (nI k) (nI m) σ = ((fI σ 5 6 (some 149)).bind fun t1 => if t1 ≤ nI m then fX5_writeRow_b83 σ else (aL σ 11 (some 161)).bind fun t3 => if t3 ≤ nI m then fX5_writeRow_b83 σ else if nI m < nI k then fX5_writeRow_b72 (fX5_writeRow_b22 n) 149 (some 161) (nI p) (nI k) (nI m) σ else (kT σ 5 (some 149)).bind fun k6 => b2 (fX5_choiceAt k6 (nI m) (nI p) σ) fun t7 m8 => if t7 = nI p then fX5_writeRow_b72 (fX5_writeRow_b22 n) 149 (some 161) (nI p) (nI k) (nI m) m8 else (kT m8 5 (some 149)).bind fun k10 => b2 (fX5_choiceAt k10 (nI m) (nI p) m8) fun t11 m12 => (kT m12 5 (some 149)).bind fun k13 => b2 (fX5_termOf k13 t11 m12) fun t14 m15 => bd (nI m + t14) fun t16 => fX5_writeRow_b72 (fX5_writeRow_b22 n) 149 (some 161) t11 t16 (nI m) m15) := rfl
    rw [hd0, u_fI149 hS, bs, e6]
    by_cases c : m < b
    · rw [if_neg (nI_ge c (by omega)), u_l161 hS, bs, if_neg (nI_ge (by omega) (by decide))]
      have step (q k' X y : Nat) (hq : q < w.1) (hk' : k' ≤ 100) (hL' : Lst (SP (gdOf w h) b (b - (m + 1)) q (k' - (m + 1))) (some y)) (hv : v = X * 1000000000000000000000000 + q * ee (m + 1) + y) : ∃ τ f C, fX5_writeRow_b72 (fX5_writeRow_b22 n) 149 (some 161) (nI q) (nI k') (nI m) σ = some τ ∧ Fr (fun c _ => c = 161) σ τ ∧ (∀ i, (i < m ∨ b ≤ i) → gI τ 161 i = gI σ 161 i) ∧ (∀ i, m ≤ i → i < b → f i < 10 ∧ gI τ 161 i = nI (f i)) ∧ v = C * 1000000000000000000000000 + cd f m (b - m) := by
        have F : Fr (fun c _ => c = 161) σ (sI σ 161 m (nI q)) := Fr.cI (Fr.refl hS) rfl
        have B1 : SB (sI σ 161 m (nI q)) B w a b := by
          obtain ⟨b1, b2', b3, b4, b5⟩ := hB
          exact ⟨F.1, H8_Fr F hw (fun c hc k q => by unfold inBk at hc; omega) (fun k q => by omega) (fun q => by omega) b2', b3, by rw [gI_sI2 (by omega)]; exact b4, by rw [gI_sI2 (by omega)]; exact b5⟩
        obtain ⟨τ, f, C, t1, t2, t3, t4, t5⟩ := ih (m + 1) q k' y _ B1 (fun i q' i1 i2 q1 => FC_c rfl (gI_sI2 (by omega)) (hF i q' (by omega) i2 q1)) hL' hq (by omega) hk' (by omega)
        refine ⟨τ, fun i => if i = m then q else f i, X + C, ?_, Fr.tr F t2, fun i hi => ?_, fun i i1 i2 => ?_, ?_⟩
        · unfold fX5_writeRow_b72
          rw [u_w161 hS (by omega), bs, bd_, nI_1]
          exact t1
        · rw [t3 i (by omega), gI_sI2 (by omega)]
        · by_cases e : i = m
          · subst e
            simp only [if_pos]
            exact ⟨by omega, by rw [t3 i (by omega), gI_sI1]⟩
          · simp only [if_neg e]
            exact t4 i (by omega) i2
        · have e1 : b - m = (b - (m + 1)) + 1 := by omega
          rw [e1, cd_p]
          have e2 := cd_x (f := fun i => if i = m then q else f i) (f' := f) (a := m + 1) (b - (m + 1)) (fun i _ => if_neg (by omega))
          rw [e2]
          simp only [if_pos]
          rw [hv, t5, Nat.add_mul]
          omega
      by_cases c2 : m < k
      · rw [if_pos (nI_lt c2 (by omega))]
        have e1 : b - m = (b - (m + 1)) + 1 := by omega
        have e2 : k - m = (k - (m + 1)) + 1 := by omega
        rw [e1, e2] at hL
        have sp := fun x => SP_k (g := gdOf w h) (b := b) (m := m) (n := b - (m + 1)) (p := p) (k := k - (m + 1)) (x := x) (by omega)
        obtain ⟨s1, s2, y, s3, s4⟩ := (sp v).mp hL.1
        refine step p k (gC (gdOf w h) p m) y hp hk ⟨s3, fun z hz => ?_⟩ s4
        have := hL.2 _ ((sp (gC (gdOf w h) p m * 1000000000000000000000000 + p * ee (m + 1) + z)).mpr ⟨s1, s2, z, hz, rfl⟩)
        rw [s4] at this
        exact Nat.le_of_add_le_add_left this
      · rw [if_neg (nI_nlt (by omega) (by omega)), u_kT149 hS, bs, chAt hS (by omega) (by omega), b2s]
        rw [show k - m = 0 by omega] at hL
        obtain ⟨o, o1, o2, o3⟩ := hF m p (Nat.le_refl _) c hp
        have := Lst_u o1 hL
        subst this
        obtain ⟨q, y, q1, q2, q3⟩ := o3 v rfl
        have q1 : q < w.1 := q1
        rw [q2]
        rcases q3 with ⟨rfl, k1, k2⟩ | ⟨q3, k1, k2⟩
        · rw [if_pos rfl]
          refine step q k _ y hp hk ?_ k2
          rw [show k - (m + 1) = 0 by omega]
          exact k1
        · have t1 := (hw.2.1 q q1).2.2.1
          rw [if_neg (by rw [nI_eq (by omega) (by omega)]; exact q3), u_kT149 hS, bs, chAt hS (by omega) (by omega), b2s, q2, u_kT149 hS, bs, trmOf hw hB q1, b2s, nI_add, bd_]
          refine step q (m + (w.2.1 q).2.1) _ y q1 (by omega) ?_ k2
          rw [show m + (w.2.1 q).2.1 - (m + 1) = (w.2.1 q).2.1 - 1 by omega]
          exact k1
    · have e : m = b := by omega
      subst e
      rw [if_pos (nI_le (Nat.le_refl _) (by omega))]
      refine ⟨σ, fun _ => 0, 0, rfl, Fr.refl hS, fun _ _ => rfl, fun i i1 i2 => by omega, ?_⟩
      rw [show m - m = 0 by omega] at hL ⊢
      have : v = 0 := hL.1
      rw [this]
      show 0 = 0 * 1000000000000000000000000 + 0
      omega
