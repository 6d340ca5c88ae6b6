/-! what is freed -/
def FC (g : GD) (b : Nat) (σ : Mem) (m p : Nat) : Prop := ∃ o, Lst (SP g b (b - m) p 0) o ∧ gJ σ 152 (m * 10 + p) = cst o ∧ ∀ v, o = some v → ∃ q y, q < gP g ∧ gI σ 153 (m * 10 + p) = nI q ∧ ((q = p ∧ Lst (SP g b (b - (m + 1)) p 0) (some y) ∧ v = gC g q m * 1000000000000000000000000 + q * ee (m + 1) + y) ∨ (q ≠ p ∧ Lst (SP g b (b - (m + 1)) q (gT g q - 1)) (some y) ∧ v = (gC g q m + gW g) * 1000000000000000000000000 + q * ee (m + 1) + y))
theorem FC_T {g : GD} {b m p : Nat} {σ : Mem} (h : FC g b σ m p) : FT g b σ m p := by
  obtain ⟨o, h1, h2, -⟩ := h
  exact ⟨o, h1, h2⟩
def Cn (g : GD) (b m p q x : Nat) : Prop := (q = p ∧ gO g p m ∧ ∃ y, SP g b (b - (m + 1)) p 0 y ∧ x = gC g p m * 1000000000000000000000000 + p * ee (m + 1) + y) ∨ (q ≠ p ∧ ∃ y, BG g b m q y ∧ x = y + gW g * 1000000000000000000000000)
theorem BG_x {g : GD} {b m q y : Nat} (hg : okG g) (hq : q < gP g) (hm : m < b) : BG g b m q y ↔ gB g q m ∧ gO g q m ∧ ∃ z, SP g b (b - (m + 1)) q (gT g q - 1) z ∧ y = gC g q m * 1000000000000000000000000 + q * ee (m + 1) + z := by
  have h1 := (hg.2.1 q hq).1
  unfold BG
  rw [show b - m = (b - (m + 1)) + 1 by omega]
  have e := SP_k (g := g) (b := b) (m := m) (n := b - (m + 1)) (p := q) (k := gT g q - 1) (x := y) (by omega)
  rw [show gT g q - 1 + 1 = gT g q by omega] at e
  rw [e]
  constructor
  · rintro ⟨a1, -, a2, a3⟩
    exact ⟨a1, a2, a3⟩
  · rintro ⟨a1, a2, a3⟩
    exact ⟨a1, hq, a2, a3⟩
theorem Cn_d {g : GD} {b m p q x : Nat} (hg : okG g) (hq : q < gP g) (hm : m < b) (hb : b ≤ 24) (h : Cn g b m p q x) : ∃ C r, x = C * 1000000000000000000000000 + (q * ee (m + 1) + r) ∧ r < ee (m + 1) ∧ C ≤ 100000000000 := by
  have h2 := hg.2.2.1 q m hq (by omega)
  have h3 := hg.2.2.2
  rcases h with ⟨rfl, -, y, h4, rfl⟩ | ⟨-, y, h4, rfl⟩
  · obtain ⟨C, D, e1, e2, e3⟩ := SP_b hg hb (b - (m + 1)) (m + 1) _ _ y (by omega) h4
    refine ⟨gC g q m + C, D, ?_, e2, ?_⟩
    · rw [Nat.add_mul]; omega
    · have : (b - (m + 1)) * 3200779999 ≤ 24 * 3200779999 := Nat.mul_le_mul_right _ (by omega)
      omega
  · obtain ⟨-, -, z, h5, rfl⟩ := (BG_x hg hq hm).mp h4
    obtain ⟨C, D, e1, e2, e3⟩ := SP_b hg hb (b - (m + 1)) (m + 1) _ _ z (by omega) h5
    refine ⟨gC g q m + gW g + C, D, ?_, e2, ?_⟩
    · rw [Nat.add_mul, Nat.add_mul]; omega
    · have : (b - (m + 1)) * 3200779999 ≤ 24 * 3200779999 := Nat.mul_le_mul_right _ (by omega)
      omega
theorem Cn_S {g : GD} {b m p x : Nat} (hg : okG g) (hm : m < b) : SP g b (b - m) p 0 x ↔ ∃ q, q < gP g ∧ Cn g b m p q x := by
  rw [show b - m = (b - (m + 1)) + 1 by omega, SP_s (m := m) (by omega)]
  constructor
  · rintro ⟨q, y, h1, h2, ⟨rfl, h3, h4⟩ | ⟨h3, -, h4, h5, h6⟩⟩
    · exact ⟨q, h1, Or.inl ⟨rfl, h2, y, h3, h4⟩⟩
    · refine ⟨q, h1, Or.inr ⟨h3, _, (BG_x hg h1 hm).mpr ⟨h4, h2, y, h5, rfl⟩, ?_⟩⟩
      rw [h6, Nat.add_mul]
      omega
  · rintro ⟨q, h1, ⟨rfl, h2, y, h3, h4⟩ | ⟨h3, y, h4, h5⟩⟩
    · exact ⟨q, y, h1, h2, Or.inl ⟨rfl, h3, h4⟩⟩
    · obtain ⟨k1, k2, z, k3, k4⟩ := (BG_x hg h1 hm).mp h4
      refine ⟨q, z, h1, k2, Or.inr ⟨h3, rfl, k1, k3, ?_⟩⟩
      rw [h5, k4, Nat.add_mul]
      omega
/-- of like ones the first stays -/
def bet (u o : Option Nat) : Option Nat := match u, o with
  | none, o => o
  | some x, none => some x
  | some x, some y => if x / 1000000000000000000000000 < y / 1000000000000000000000000 then some x else some y
theorem bet_ok {S : Nat → Nat → Prop} {q E : Nat} {o u : Option Nat} (hE : 10 * E ≤ 1000000000000000000000000) (hq : q < 10) (hd : ∀ i x, i ≤ q → S i x → ∃ C r, x = C * 1000000000000000000000000 + (i * E + r) ∧ r < E) (ho : Lst (fun x => ∃ i, i < q ∧ S i x) o) (hu : Lst (S q) u) : Lst (fun x => ∃ i, i < q + 1 ∧ S i x) (bet u o) := by
  cases u with
  | none =>
    refine Lst_x (fun x => ?_) ho
    constructor
    · rintro ⟨i, i1, i2⟩; exact ⟨i, by omega, i2⟩
    · rintro ⟨i, i1, i2⟩
      by_cases e : i = q
      · subst e; exact absurd i2 (hu x)
      · exact ⟨i, by omega, i2⟩
  | some x =>
    cases o with
    | none =>
      refine ⟨⟨q, by omega, hu.1⟩, ?_⟩
      rintro z ⟨i, i1, i2⟩
      by_cases e : i = q
      · subst e; exact hu.2 z i2
      · exact absurd ⟨i, by omega, i2⟩ (ho z)
    | some y =>
      obtain ⟨⟨j, j1, j2⟩, hy⟩ := ho
      obtain ⟨C, r, e1, e2⟩ := hd q x (Nat.le_refl _) hu.1
      obtain ⟨C', r', e3, e4⟩ := hd j y (by omega) j2
      have m1 : (j + 1) * E ≤ q * E := Nat.mul_le_mul_right _ j1
      have m2 : (q + 1) * E ≤ 10 * E := Nat.mul_le_mul_right _ (by omega)
      rw [Nat.add_mul] at m1 m2
      have q1 : x / 1000000000000000000000000 = C := by omega
      have q2 : y / 1000000000000000000000000 = C' := by omega
      show Lst _ (if x / 1000000000000000000000000 < y / 1000000000000000000000000 then some x else some y)
      rw [q1, q2]
      by_cases c : C < C'
      · rw [if_pos c]
        refine ⟨⟨q, by omega, hu.1⟩, ?_⟩
        rintro z ⟨i, i1, i2⟩
        by_cases e : i = q
        · subst e; exact hu.2 z i2
        · have := hy z ⟨i, by omega, i2⟩
          omega
      · rw [if_neg c]
        refine ⟨⟨j, by omega, j2⟩, ?_⟩
        rintro z ⟨i, i1, i2⟩
        by_cases e : i = q
        · subst e
          have := hu.2 z i2
          by_cases c2 : C = C'
          · subst c2; omega
          · omega
        · exact hy z ⟨i, by omega, i2⟩
theorem ee10 {m : Nat} (h : m < 24) : 10 * ee (m + 1) ≤ 1000000000000000000000000 := by
  rw [← ee_s h]; exact ee_le m
theorem fF1 {σ : Mem} {B a b p m h : Nat} {w : WD} (hw : okW w) (hB : SB σ B w a b) (hp : p < w.1) (hmb : m < b) (hb24 : b ≤ 24) (hM : mcv (gdOf w h) p m (gJ σ 150 (m * 10 + p))) (hF : m + 1 < b → FT (gdOf w h) b σ (m + 1) p) (hG : ∀ q, q < w.1 → ∃ o, Lst (BG (gdOf w h) b m q) o ∧ gJ σ 151 (m * 10 + q) = cst o) (n : Nat) : ∀ q o ch, q ≤ w.1 → w.1 < q + n → Lst (fun x => ∃ i, i < q ∧ Cn (gdOf w h) b m p i x) o → (∀ v, o = some v → ∃ i, i < w.1 ∧ Cn (gdOf w h) b m p i v ∧ ch = nI i) → ∃ o' ch', fX5_fillFreed_b11 n 149 (nI p) (nI m) (nI w.2.2.2) (cst o) ch (nI q) σ = some (sI (sJ σ 152 (m * 10 + p) (cst o')) 153 (m * 10 + p) ch') ∧ Lst (fun x => ∃ i, i < w.1 ∧ Cn (gdOf w h) b m p i x) o' ∧ ∀ v, o' = some v → ∃ i, i < w.1 ∧ Cn (gdOf w h) b m p i v ∧ ch' = nI i := by
  have hg := gd_ok (h := h) hw
  have hP := hw.1
  have hW := hw.2.2.2
  obtain ⟨hS, ⟨hb, a2, a3, -, -⟩, e4, e5, e6⟩ := hB
  have eP : gP (gdOf w h) = w.1 := rfl
  have eW : gW (gdOf w h) = w.2.2.2 := rfl
  have dig : ∀ i x, i < w.1 → Cn (gdOf w h) b m p i x → ∃ C r, x = C * 1000000000000000000000000 + (i * ee (m + 1) + r) ∧ r < ee (m + 1) := fun i x hi hx => by
    obtain ⟨C, r, k1, k2, -⟩ := Cn_d hg hi hmb hb24 hx
    exact ⟨C, r, k1, k2⟩
  have sml : ∀ i x, i < w.1 → Cn (gdOf w h) b m p i x → x / 1000000000000000000000000 < 2 ^ 62 := fun i x hi hx => by
    obtain ⟨C, r, k1, k2, k3⟩ := Cn_d hg hi hmb hb24 hx
    have h1 : (i + 1) * ee (m + 1) ≤ 10 * ee (m + 1) := Nat.mul_le_mul_right _ (by omega)
    have h2 := ee10 (m := m) (by omega)
    rw [Nat.add_mul] at h1
    omega
  induction n with
  | zero => intro q o ch hq hn; omega
  | succ n ih =>
    intro q o ch hq hn hL hc
    have hd0 : fX5_fillFreed_b11 (n + 1) 149 (nI p) (nI m) (nI w.2.2.2) (cst o) ch (nI q) σ = ((fR σ 5 4 (some 149)).bind fun t1 => (fI σ 3 1 t1).bind fun t2 => if t2 ≤ nI q then fX5_fillFreed_b80 149 (nI p) (nI m) (cst o) ch σ else if nI q = nI p then (kT σ 5 (some 149)).bind fun k11 => b2 (fX5_keptCents k11 (nI p) (nI m) σ) fun t12 m13 => fX5_fillFreed_b54 (fX5_fillFreed_b11 n) 149 (nI p) (nI m) (nI w.2.2.2) (cst o) ch (nI q) t12 m13 else (fR σ 5 1 (some 149)).bind fun t5 => b2 (fX5_slot (nI m) (nI q) σ) fun t6 m7 => (aJ m7 12 t5 t6).bind fun t8 => b2 (fX8_plus t8 ((nI w.2.2.2 : Int32).toInt64) m7) fun t9 m10 => fX5_fillFreed_b54 (fX5_fillFreed_b11 n) 149 (nI p) (nI m) (nI w.2.2.2) (cst o) ch (nI q) t9 m10) := rfl
    rw [hd0, u_R149_4 hS, bs, e4, v_fIB hS hb, bs, a2]
    by_cases c : q < w.1
    · rw [if_neg (nI_ge c (by omega))]
      have step (u : Option Nat) (hu : Lst (Cn (gdOf w h) b m p q) u) : ∃ o' ch', fX5_fillFreed_b54 (fX5_fillFreed_b11 n) 149 (nI p) (nI m) (nI w.2.2.2) (cst o) ch (nI q) (cst u) σ = some (sI (sJ σ 152 (m * 10 + p) (cst o')) 153 (m * 10 + p) ch') ∧ Lst (fun x => ∃ i, i < w.1 ∧ Cn (gdOf w h) b m p i x) o' ∧ ∀ v, o' = some v → ∃ i, i < w.1 ∧ Cn (gdOf w h) b m p i v ∧ ch' = nI i := by
        have hL' := bet_ok (E := ee (m + 1)) (ee10 (by omega)) (by omega) (fun i x hi hx => dig i x (by omega) hx) hL hu
        unfold fX5_fillFreed_b54
        rw [chp (fun v hv => by
          subst hv
          obtain ⟨i, i1, i2⟩ := hL.1
          exact sml i v (by omega) i2) (fun v hv => by subst hv; exact sml q v c hu.1), b2s]
        cases u with
        | none =>
          rw [show chv none o = 0 from rfl, if_pos rfl]
          unfold fX5_fillFreed_b74
          rw [bd_, nI_1]
          exact ih (q + 1) o ch (by omega) (by omega) hL' hc
        | some x =>
          cases o with
          | none =>
            rw [show chv (some x) none = 1 from rfl, if_neg (by decide)]
            unfold fX5_fillFreed_b74
            rw [bd_, nI_1]
            exact ih (q + 1) (some x) (nI q) (by omega) (by omega) hL' (fun v hv => ⟨q, c, by cases hv; exact hu.1, rfl⟩)
          | some y =>
            have e : bet (some x) (some y) = if x / 1000000000000000000000000 < y / 1000000000000000000000000 then some x else some y := rfl
            rw [e] at hL'
            by_cases cc : x / 1000000000000000000000000 < y / 1000000000000000000000000
            · rw [if_pos cc] at hL'
              rw [show chv (some x) (some y) = if x / 1000000000000000000000000 < y / 1000000000000000000000000 then 1 else 0 from rfl, if_pos cc, if_neg (by decide)]
              unfold fX5_fillFreed_b74
              rw [bd_, nI_1]
              exact ih (q + 1) (some x) (nI q) (by omega) (by omega) hL' (fun v hv => ⟨q, c, by cases hv; exact hu.1, rfl⟩)
            · rw [if_neg cc] at hL'
              rw [show chv (some x) (some y) = if x / 1000000000000000000000000 < y / 1000000000000000000000000 then 1 else 0 from rfl, if_neg cc, if_pos rfl]
              unfold fX5_fillFreed_b74
              rw [bd_, nI_1]
              exact ih (q + 1) (some y) ch (by omega) (by omega) hL' hc
      by_cases cp : q = p
      · subst cp
        rw [if_pos rfl, u_kT149 hS, bs]
        -- the costs where it is kept
        have kept : ∃ u, Lst (Cn (gdOf w h) b m q q) u ∧ fX5_keptCents 149 (nI q) (nI m) σ = some (cst u, σ) := by
          have core (oF : Option Nat) (hoF : Lst (SP (gdOf w h) b (b - (m + 1)) q 0) oF) (y0 : Int64) (hy : y0 = cst oF) : ∃ u, Lst (Cn (gdOf w h) b m q q) u ∧ fX5_keptCents_b26 149 (nI q) (nI m) y0 σ = some (cst u, σ) := by
            subst hy
            unfold fX5_keptCents_b26
            rw [u_R149_0 hS, bs, slt (by omega) (by omega), b2s, u_a150 hS (by omega), bs]
            by_cases o1 : gO (gdOf w h) q m
            · rw [hM.1 o1]
              cases oF with
              | none =>
                refine ⟨none, ?_, ?_⟩
                · rintro x (⟨-, -, y, k1, -⟩ | ⟨k1, -⟩)
                  · exact hoF y k1
                  · exact k1 rfl
                · rw [show cst none = -1 from rfl, plusR, b2s]
              | some y =>
                have h2 := hg.2.2.1 q m c (by omega)
                obtain ⟨C, D, k1, k2, k3⟩ := SP_b hg hb24 (b - (m + 1)) (m + 1) _ _ y (by omega) hoF.1
                have k4 : (b - (m + 1)) * 3200779999 ≤ 24 * 3200779999 := Nat.mul_le_mul_right _ (by omega)
                have k5 : (q + 1) * ee (m + 1) ≤ 10 * ee (m + 1) := Nat.mul_le_mul_right _ (by omega)
                have k6 := ee10 (m := m) (by omega)
                rw [Nat.add_mul] at k5
                refine ⟨some (gC (gdOf w h) q m * 1000000000000000000000000 + q * ee (m + 1) + y), ⟨Or.inl ⟨rfl, o1, y, hoF.1, rfl⟩, ?_⟩, ?_⟩
                · rintro x (⟨-, -, z, z1, rfl⟩ | ⟨z1, -⟩)
                  · exact Nat.add_le_add_left (hoF.2 z z1) _
                  · exact absurd rfl z1
                · rw [show cst (some y) = lN (y / 1000000000000000000000000) from rfl, plus_ (by omega) (by omega), b2s]
                  show some (lN (gC (gdOf w h) q m + y / 1000000000000000000000000), σ) = some (lN ((gC (gdOf w h) q m * 1000000000000000000000000 + q * ee (m + 1) + y) / 1000000000000000000000000), σ)
                  rw [show gC (gdOf w h) q m + y / 1000000000000000000000000 = (gC (gdOf w h) q m * 1000000000000000000000000 + q * ee (m + 1) + y) / 1000000000000000000000000 by omega]
            · rw [hM.2 o1, plusL, b2s]
              refine ⟨none, ?_, rfl⟩
              rintro x (⟨-, k1, -⟩ | ⟨k1, -⟩)
              · exact o1 k1
              · exact k1 rfl
          unfold fX5_keptCents
          rw [u_fI149 hS, bs, e6, nI_1]
          by_cases c2 : m + 1 < b
          · obtain ⟨oF, f1, f2⟩ := hF c2
            rw [if_neg (nI_ge c2 (by omega)), u_R149_2 hS, bs, slt (by omega) (by omega), b2s, u_a152 hS (by omega), bs]
            exact core oF f1 _ f2
          · rw [if_pos (nI_le (by omega) (by omega))]
            refine core (some 0) ?_ 0 (by show (0 : Int64) = lN (0 / 1000000000000000000000000); rw [Nat.zero_div]; rfl)
            rw [show b - (m + 1) = 0 by omega]
            exact ⟨rfl, fun x _ => Nat.zero_le _⟩
        obtain ⟨u, u1, u2⟩ := kept
        rw [u2, b2s]
        exact step u u1
      · rw [if_neg (by rw [nI_eq (by omega) (by omega)]; exact cp), u_R149_1 hS, bs, slt (by omega) (by omega), b2s, u_a151 hS (by omega), bs, nI_l (by omega)]
        obtain ⟨oG, g1, g2⟩ := hG q c
        rw [g2]
        cases oG with
        | none =>
          rw [show cst none = -1 from rfl, plusL, b2s]
          refine step none ?_
          rintro x (⟨k1, -⟩ | ⟨-, y, k1, -⟩)
          · exact cp k1
          · exact g1 y k1
        | some y =>
          obtain ⟨-, -, z, z1, z2⟩ := (BG_x hg c hmb).mp g1.1
          have h2 := hg.2.2.1 q m c (by omega)
          obtain ⟨C, D, k1, k2, k3⟩ := SP_b hg hb24 (b - (m + 1)) (m + 1) _ _ z (by omega) z1
          have k4 : (b - (m + 1)) * 3200779999 ≤ 24 * 3200779999 := Nat.mul_le_mul_right _ (by omega)
          have k5 : (q + 1) * ee (m + 1) ≤ 10 * ee (m + 1) := Nat.mul_le_mul_right _ (by omega)
          have k6 := ee10 (m := m) (by omega)
          rw [Nat.add_mul] at k5
          rw [show cst (some y) = lN (y / 1000000000000000000000000) from rfl, plus_ (by omega) (by omega), b2s, show y / 1000000000000000000000000 + w.2.2.2 = (y + gW (gdOf w h) * 1000000000000000000000000) / 1000000000000000000000000 by omega]
          refine step (some (y + gW (gdOf w h) * 1000000000000000000000000)) ⟨Or.inr ⟨cp, y, g1.1, rfl⟩, ?_⟩
          rintro x (⟨k1, -⟩ | ⟨-, y', k1, rfl⟩)
          · exact absurd k1 cp
          · have := g1.2 y' k1
            omega
    · have e : q = w.1 := by omega
      subst e
      rw [if_pos (nI_le (Nat.le_refl _) (by omega))]
      refine ⟨o, ch, ?_, hL, hc⟩
      unfold fX5_fillFreed_b80
      rw [u_R149_2 hS, bs, slt (by omega) (by omega), b2s, u_w152 hS (by omega), bs, u_R149_3 (q_sJ hS _ _ _), bs, slt (by omega) (by omega), b2s, u_w153 (q_sJ hS _ _ _) (by omega), bs]
theorem fF {σ : Mem} {B a b p m h : Nat} {w : WD} (hw : okW w) (hB : SB σ B w a b) (hp : p < w.1) (hmb : m < b) (hb24 : b ≤ 24) (hM : mcv (gdOf w h) p m (gJ σ 150 (m * 10 + p))) (hF : m + 1 < b → FT (gdOf w h) b σ (m + 1) p) (hG : ∀ q, q < w.1 → ∃ o, Lst (BG (gdOf w h) b m q) o ∧ gJ σ 151 (m * 10 + q) = cst o) : ∃ v ch, fX5_fillFreed 149 (nI p) (nI m) (nI w.2.2.2) σ = some (sI (sJ σ 152 (m * 10 + p) v) 153 (m * 10 + p) ch) ∧ FC (gdOf w h) b (sI (sJ σ 152 (m * 10 + p) v) 153 (m * 10 + p) ch) m p := by
  have hg := gd_ok (h := h) hw
  obtain ⟨o, ch, k1, k2, k3⟩ := fF1 hw hB hp hmb hb24 hM hF hG FU 0 none (-1) (by omega) (by have := hw.1; unfold FU; omega) (by rintro x ⟨i, hi, -⟩; omega) (fun v hv => by cases hv)
  refine ⟨cst o, ch, k1, o, Lst_x (fun x => (Cn_S hg hmb).symm) k2, by rw [rdJI, gJ_sJ1], fun v hv => ?_⟩
  obtain ⟨q, q1, q2, q3⟩ := k3 v hv
  subst hv
  rcases q2 with ⟨rfl, o1, y, y1, y2⟩ | ⟨q2, y, y1, y2⟩
  · refine ⟨q, y, q1, by rw [gI_sI1]; exact q3, Or.inl ⟨rfl, ⟨y1, fun z hz => ?_⟩, y2⟩⟩
    have := k2.2 (gC (gdOf w h) q m * 1000000000000000000000000 + q * ee (m + 1) + z) ⟨q, q1, Or.inl ⟨rfl, o1, z, hz, rfl⟩⟩
    omega
  · obtain ⟨b1, b2', z, z1, z2⟩ := (BG_x hg q1 hmb).mp y1
    refine ⟨q, z, q1, by rw [gI_sI1]; exact q3, Or.inr ⟨q2, ⟨z1, fun u hu => ?_⟩, ?_⟩⟩
    · have := k2.2 (gC (gdOf w h) q m * 1000000000000000000000000 + q * ee (m + 1) + u + gW (gdOf w h) * 1000000000000000000000000) ⟨q, q1, Or.inr ⟨q2, _, (BG_x hg q1 hmb).mpr ⟨b1, b2', u, hu, rfl⟩, rfl⟩⟩
      omega
    · rw [y2, z2, Nat.add_mul]
      omega
