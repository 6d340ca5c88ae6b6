/-! the class's search, from the last month back -/
def gdOf (w : WD) (h : Nat) : GD := (w.1, w.2.2.2, (fun q m => mco (w.2.1 q) (tog w.2.2.1 h m)), (fun q m => mayT (w.2.1 q) (tog w.2.2.1 h m) 0), (fun q m => (w.2.1 q).2.2.1 ≤ m ∧ m ≤ (w.2.1 q).2.2.2.1), (fun q => (w.2.1 q).2.1))
theorem gd_ok {w : WD} {h : Nat} (hw : okW w) : okG (gdOf w h) := by
  refine ⟨hw.1, fun q hq => ?_, fun q m hq hm => ?_, hw.2.2.2⟩
  · have := hw.2.1 q hq
    exact ⟨this.2.1, this.2.2.1⟩
  · exact mco_le (hw.2.1 q hq) (fun s hs => tog_le hw.2.2.1 hs hm)
def cst (o : Option Nat) : Int64 := match o with
  | none => -1
  | some v => lN (v / 1000000000000000000000000)
def mcv (g : GD) (q m : Nat) (x : Int64) : Prop := (gO g q m → x = lN (gC g q m)) ∧ (¬ gO g q m → x = -1)
def SB (σ : Mem) (B : Nat) (w : WD) (a b : Nat) : Prop := ST σ ∧ H8 σ B w ∧ gR σ 149 4 = some B ∧ gI σ 149 5 = nI a ∧ gI σ 149 6 = nI b
theorem SB_Fr {p : Nat → Nat → Prop} {σ τ : Mem} {B a b : Nat} {w : WD} (F : Fr p σ τ) (hw : okW w) (hp : ∀ c k, p c k → (c = 148 ∨ (150 ≤ c ∧ c ≤ 153) ∨ (c = 149 ∧ k = 7))) (h : SB σ B w a b) : SB τ B w a b := by
  obtain ⟨h1, h2, h3, h4, h5⟩ := h
  refine ⟨F.1, H8_Fr F hw (fun c hc k q => ?_) (fun k q => ?_) (fun q => ?_) h2, (F.2 149 4 (fun q => ?_)).2.2.trans h3, (F.2 149 5 (fun q => ?_)).1.trans h4, (F.2 149 6 (fun q => ?_)).1.trans h5⟩ <;> have := hp _ _ q <;> first | omega | skip
  unfold inBk at hc
  omega
theorem slt {σ : Mem} {m p : Nat} (hm : m < 24) (hp : p < 10) : fX5_slot (nI m) (nI p) σ = some (nI (m * 10 + p), σ) := by
  unfold fX5_slot
  rw [w_0, w_23, iwN (by omega) (by decide) (by decide), if_pos (by omega), b2s, if_neg (by decide), w_9, iwN (by omega) (by decide) (by decide), if_pos (by omega), b2s, if_neg (by decide), w_10, pk_mul, nI_add]
  rfl
theorem plus_ {σ : Mem} {x y : Nat} (hx : x < 2 ^ 62) (hy : y < 2 ^ 62) : fX8_plus (lN x) (lN y) σ = some (lN (x + y), σ) := by
  unfold fX8_plus
  rw [if_neg (by rw [lm1_ne (by omega)]; exact id), if_neg (by rw [lm1_ne (by omega)]; exact id), lN_add]
  rfl
theorem plusL {σ : Mem} {y : Int64} : fX8_plus (-1) y σ = some (-1, σ) := by
  unfold fX8_plus
  rw [if_pos rfl]
  rfl
theorem plusR {σ : Mem} {x : Int64} : fX8_plus x (-1) σ = some (-1, σ) := by
  unfold fX8_plus
  by_cases c : x = -1
  · rw [if_pos c]; rfl
  · rw [if_neg c, if_pos rfl]; rfl
def chv (u o : Option Nat) : Int32 := match u, o with
  | none, _ => 0
  | some _, none => 1
  | some x, some y => if x / 1000000000000000000000000 < y / 1000000000000000000000000 then 1 else 0
theorem chp {σ : Mem} {o u : Option Nat} (ho : ∀ v, o = some v → v / 1000000000000000000000000 < 2 ^ 62) (hu : ∀ v, u = some v → v / 1000000000000000000000000 < 2 ^ 62) : fX8_isCheaper (cst u) (cst o) σ = some (chv u o, σ) := by
  unfold fX8_isCheaper
  cases u with
  | none => rw [show cst none = -1 from rfl, if_pos rfl]; rfl
  | some x =>
    have hx := hu x rfl
    rw [show cst (some x) = lN (x / 1000000000000000000000000) from rfl, if_neg (by rw [lm1_ne (by omega)]; exact id)]
    cases o with
    | none => rw [show cst none = -1 from rfl, if_pos rfl]; rfl
    | some y =>
      have hy := ho y rfl
      rw [show cst (some y) = lN (y / 1000000000000000000000000) from rfl, if_neg (by rw [lm1_ne (by omega)]; exact id)]
      simp only [pk_lLE (show y / 1000000000000000000000000 < 2 ^ 63 by omega) (show x / 1000000000000000000000000 < 2 ^ 63 by omega)]
      by_cases c : y / 1000000000000000000000000 ≤ x / 1000000000000000000000000
      · rw [if_pos c, show chv (some x) (some y) = if x / 1000000000000000000000000 < y / 1000000000000000000000000 then 1 else 0 from rfl, if_neg (by omega)]; rfl
      · rw [if_neg c, show chv (some x) (some y) = if x / 1000000000000000000000000 < y / 1000000000000000000000000 then 1 else 0 from rfl, if_pos (by omega)]; rfl
/-- a month's costs -/
theorem fM1 {B a b h m : Nat} {w : WD} (hw : okW w) (hh : h < 16) (hm : m < 24) (n : Nat) : ∀ q σ, SB σ B w a b → (∀ i, i < 4 → gI σ 148 i = nI (tog w.2.2.1 h m i)) → q ≤ w.1 → w.1 < q + n → ∃ τ, fX5_fillMonthCents_b2 n 149 (some 148) (nI m) (nI q) σ = some τ ∧ Fr (fun c _ => c = 150) σ τ ∧ (∀ i, q ≤ i → i < w.1 → mcv (gdOf w h) i m (gJ τ 150 (m * 10 + i))) ∧ ∀ j, (j < m * 10 + q ∨ m * 10 + w.1 ≤ j) → gJ τ 150 j = gJ σ 150 j := by
  have hP := hw.1
  induction n with
  | zero => intro q σ _ _ hq hn; omega
  | succ n ih =>
    intro q σ hB hT hq hn
    have hB' := hB
    obtain ⟨hS, ⟨hb, a2, a3, -, -⟩, e4, -, -⟩ := hB'
    have hd0 : fX5_fillMonthCents_b2 (n + 1) 149 (some 148) (nI m) (nI q) σ = ((fR σ 5 4 (some 149)).bind fun t1 => (fI σ 3 1 t1).bind fun t2 => if t2 ≤ nI q then fX5_fillMonthCents_b56 σ else (fR σ 5 4 (some 149)).bind fun t4 => (kT σ 3 t4).bind fun k5 => b2 (fX3_at k5 (nI q) σ) fun t6 m7 => (fR m7 5 0 (some 149)).bind fun t8 => b2 (fX5_slot (nI m) (nI q) m7) fun t9 m10 => if t6 = none then fX5_fillMonthCents_b49 (fX5_fillMonthCents_b2 n) 149 (some 148) (nI m) (nI q) (-1) t9 t8 m10 else (kT m10 2 t6).bind fun k12 => b2 (fX2_monthCents k12 (some 148) m10) fun t13 m14 => fX5_fillMonthCents_b49 (fX5_fillMonthCents_b2 n) 149 (some 148) (nI m) (nI q) t13 t9 t8 m14) := rfl
    by_cases c : q < w.1
    · have hl := hw.2.1 q c
      have hT2 : ∀ s, s < 4 → tog w.2.2.1 h m s ≤ 80000 := fun s hs => tog_le hw.2.2.1 hs hm
      have F : Fr (fun c _ => c = 150) σ (sJ σ 150 (m * 10 + q) (if mayT (w.2.1 q) (tog w.2.2.1 h m) 0 then lN (mco (w.2.1 q) (tog w.2.2.1 h m)) else -1)) := Fr.cJ (Fr.refl hS) rfl
      obtain ⟨τ, t1, t2, t3, t4⟩ := ih (q + 1) _ (SB_Fr F hw (by intro c k h; omega) hB) (fun i hi => by rw [gI_sJ]; exact hT i hi) (by omega) (by omega)
      refine ⟨τ, ?_, Fr.tr F t2, fun i h1 h2 => ?_, fun j hj => ?_⟩
      · rw [hd0, u_R149_4 hS, bs, e4, v_fIB hS hb, bs, a2, if_neg (nI_ge c (by omega)), bs, v_kTB hS hb, bs, atP hS hb hP a2 c, b2s, u_R149_0 hS, bs, slt hm (by omega), b2s, if_neg (by simp), v_kTP hS hb (by omega), bs, mCts hS hb (by omega) hl (a3 q c) hT hT2, b2s]
        unfold fX5_fillMonthCents_b49
        rw [u_w150 hS (by omega), bs, bd_, nI_1]
        exact t1
      · by_cases e : i = q
        · subst e
          rw [t4 (m * 10 + i) (by omega), gJ_sJ1]
          constructor
          · intro k; exact if_pos k
          · intro k; exact if_neg k
        · exact t3 i (by omega) h2
      · rw [t4 j (by omega), gJ_sJ2 (by omega)]
    · refine ⟨σ, ?_, Fr.refl hS, fun i h1 h2 => by omega, fun _ _ => rfl⟩
      rw [hd0, u_R149_4 hS, bs, e4, v_fIB hS hb, bs, a2, if_pos (nI_le (by omega) (by omega))]
      rfl
/-- where a plan begins -/
def FT (g : GD) (b : Nat) (σ : Mem) (m p : Nat) : Prop := ∃ o, Lst (SP g b (b - m) p 0) o ∧ gJ σ 152 (m * 10 + p) = cst o
def TV (g : GD) (p m j : Nat) (oF : Option Nat) (tv : Int64) : Prop := ((∀ i, i < j → gO g p (m + i)) ∧ ∃ y, oF = some y ∧ tv = lN (y / 1000000000000000000000000 + cs g p m j)) ∨ ((¬ (∀ i, i < j → gO g p (m + i)) ∨ oF = none) ∧ tv = -1)
theorem cs_le {g : GD} (hg : okG g) {p m : Nat} (hp : p < gP g) : ∀ j, m + j ≤ 24 → cs g p m j ≤ j * 3200679999 := by
  intro j
  induction j with
  | zero => intro _; exact Nat.le_refl _
  | succ j ih =>
    intro hj
    have h1 := ih (by omega)
    have h2 := hg.2.2.1 p (m + j) hp (by omega)
    show cs g p m j + gC g p (m + j) ≤ (j + 1) * 3200679999
    rw [Nat.succ_mul]
    omega
theorem fB1 {σ : Mem} {g : GD} {p m e : Nat} {oF : Option Nat} (hS : ST σ) (hg : okG g) (hp : p < gP g) (he : e ≤ 24) (hF : ∀ y, oF = some y → y / 1000000000000000000000000 ≤ 76818719976) (hM : ∀ i, m ≤ i → i < e → mcv g p i (gJ σ 150 (i * 10 + p))) (n : Nat) : ∀ j tv, m + j ≤ e → e < m + j + n → TV g p m j oF tv → ∃ tv', fX5_fillBegun_b70 n 149 (nI p) (nI m) tv (nI e) (nI (m + j)) σ = fX5_fillBegun_b101 149 (nI p) (nI m) tv' σ ∧ TV g p m (e - m) oF tv' := by
  have hP := hg.1
  induction n with
  | zero => intro j tv hj hn; omega
  | succ n ih =>
    intro j tv hj hn hT
    have hd0 : fX5_fillBegun_b70 (n + 1) 149 (nI p) (nI m) tv (nI e) (nI (m + j)) σ = (if nI e ≤ nI (m + j) then fX5_fillBegun_b101 149 (nI p) (nI m) tv σ else (fR σ 5 0 (some 149)).bind fun t2 => b2 (fX5_slot (nI (m + j)) (nI p) σ) fun t3 m4 => (aJ m4 12 t2 t3).bind fun t5 => b2 (fX8_plus tv t5 m4) fun t6 m7 => bd (nI (m + j) + 1) fun t8 => (fX5_fillBegun_b70 n) 149 (nI p) (nI m) t6 (nI e) t8 m7) := rfl
    by_cases c : m + j < e
    · have hmc := hM (m + j) (by omega) c
      have step (tv' : Int64) (k1 : fX8_plus tv (gJ σ 150 ((m + j) * 10 + p)) σ = some (tv', σ)) (k2 : TV g p m (j + 1) oF tv') : ∃ tv', fX5_fillBegun_b70 (n + 1) 149 (nI p) (nI m) tv (nI e) (nI (m + j)) σ = fX5_fillBegun_b101 149 (nI p) (nI m) tv' σ ∧ TV g p m (e - m) oF tv' := by
        rw [hd0, if_neg (nI_ge c (by omega)), u_R149_0 hS, bs, slt (by omega) (by omega), b2s, u_a150 hS (by omega), bs, k1, b2s, bd_, nI_1]
        exact ih (j + 1) tv' (by omega) (by omega) k2
      rcases hT with ⟨h1, y, rfl, rfl⟩ | ⟨h1, rfl⟩
      · have h3 := hF y rfl
        have h4 := cs_le hg (m := m) hp j (by omega)
        by_cases o : gO g p (m + j)
        · have h5 := hg.2.2.1 p (m + j) hp (by omega)
          rw [hmc.1 o] at step
          refine step _ (plus_ (by omega) (by omega)) (Or.inl ⟨fun i hi => ?_, y, rfl, ?_⟩)
          · by_cases ei : i = j
            · rw [ei]; exact o
            · exact h1 i (by omega)
          · show lN _ = lN (y / 1000000000000000000000000 + (cs g p m j + gC g p (m + j)))
            rw [Nat.add_assoc]
        · rw [hmc.2 o] at step
          exact step _ plusR (Or.inr ⟨Or.inl (fun q => o (q j (by omega))), rfl⟩)
      · refine step _ plusL (Or.inr ⟨?_, rfl⟩)
        rcases h1 with h1 | h1
        · exact Or.inl (fun q => h1 (fun i hi => q i (by omega)))
        · exact Or.inr h1
    · refine ⟨tv, ?_, by rw [show e - m = j by omega]; exact hT⟩
      rw [hd0, if_pos (nI_le (by omega) (by omega))]
theorem fB {σ : Mem} {B a b p m h : Nat} {w : WD} (hw : okW w) (hB : SB σ B w a b) (hp : p < w.1) (hmb : m < b) (hb24 : b ≤ 24) (hM : ∀ i, m ≤ i → i < b → mcv (gdOf w h) p i (gJ σ 150 (i * 10 + p))) (hF : ∀ i, m < i → i < b → FT (gdOf w h) b σ i p) : ∃ o, Lst (BG (gdOf w h) b m p) o ∧ fX5_fillBegun 149 (nI p) (nI m) σ = some (sJ σ 151 (m * 10 + p) (cst o)) := by
  have hg := gd_ok (h := h) hw
  have hP := hw.1
  obtain ⟨hS, ⟨hb, a2, a3, -, -⟩, e4, e5, e6⟩ := hB
  obtain ⟨l1, l2, l3, l4, -⟩ := a3 p hp
  have hl := hw.2.1 p hp
  obtain ⟨t1, t2⟩ := hg.2.1 p hp
  have fin (v : Int64) : fX5_fillBegun_b101 149 (nI p) (nI m) v σ = some (sJ σ 151 (m * 10 + p) v) := by
    unfold fX5_fillBegun_b101
    rw [u_R149_1 hS, bs, slt (by omega) (by omega), b2s, u_w151 hS (by omega), bs]
  have beg : fX2_mayBeginIn (Pl B p) (nI m) σ = some (if (w.2.1 p).2.2.1 ≤ m ∧ m ≤ (w.2.1 p).2.2.2.1 then 1 else 0, σ) := by
    unfold fX2_mayBeginIn
    rw [v_fIP hS hb (by omega), bs, v_fIP hS hb (by omega), bs, l3, l4, iwN (by omega) (by have := hl.2.2.2.1; have := hl.2.2.2.2.1; omega) (by have := hl.2.2.2.2.1; omega), b2s]
    split <;> rfl
  have hd0 : fX5_fillBegun 149 (nI p) (nI m) σ = b2 (some (if (w.2.1 p).2.2.1 ≤ m ∧ m ≤ (w.2.1 p).2.2.2.1 then (1 : Int32) else 0, σ)) fun t7 m8 => if t7 = 0 then fX5_fillBegun_b101 149 (nI p) (nI m) (-1) m8 else (fI m8 2 4 (some (Pl B p))).bind fun t10 => (fI m8 5 6 (some 149)).bind fun t11 => bd (if t11 < (nI m + t10) then t11 else (nI m + t10)) fun t12 => (fI m8 5 6 (some 149)).bind fun t13 => if t13 ≤ t12 then fX5_fillBegun_b65 149 (nI p) (nI m) t12 0 m8 else (fR m8 5 2 (some 149)).bind fun t15 => b2 (fX5_slot t12 (nI p) m8) fun t16 m17 => (aJ m17 12 t15 t16).bind fun t18 => fX5_fillBegun_b65 149 (nI p) (nI m) t12 t18 m17 := by
    unfold fX5_fillBegun
    rw [u_R149_4 hS, bs, e4, v_kTB hS hb, bs, atP hS hb hP a2 hp, b2s, if_neg (by simp), v_kTP hS hb (by omega), bs, beg]
  by_cases c : (w.2.1 p).2.2.1 ≤ m ∧ m ≤ (w.2.1 p).2.2.2.1
  · have eT : gT (gdOf w h) p = (w.2.1 p).2.1 := rfl
    -- what the loop answers
    have go (oF : Option Nat) (e : Nat) (he1 : m < e) (he2 : e ≤ b) (he3 : e - m ≤ gT (gdOf w h) p) (hL : Lst (SP (gdOf w h) b (b - e) p (gT (gdOf w h) p - (e - m))) oF) (hpg : fX5_fillBegun 149 (nI p) (nI m) σ = fX5_fillBegun_b65 149 (nI p) (nI m) (nI e) (cst oF) σ) : ∃ o, Lst (BG (gdOf w h) b m p) o ∧ fX5_fillBegun 149 (nI p) (nI m) σ = some (sJ σ 151 (m * 10 + p) (cst o)) := by
      have hF' : ∀ y, oF = some y → ∃ C D, y = C * 1000000000000000000000000 + D ∧ D < ee e ∧ C ≤ (b - e) * 3200779999 := by
        rintro y rfl
        exact SP_b hg hb24 (b - e) e _ _ y (by omega) hL.1
      have hF2 : ∀ y, oF = some y → y / 1000000000000000000000000 ≤ 76818719976 := by
        intro y hy
        obtain ⟨C, D, d1, d2, d3⟩ := hF' y hy
        have := ee_le e
        omega
      have ini : TV (gdOf w h) p m 0 oF (cst oF) := by
        cases oF with
        | none => exact Or.inr ⟨Or.inr rfl, rfl⟩
        | some y => exact Or.inl ⟨fun i hi => absurd hi (Nat.not_lt_zero i), y, rfl, rfl⟩
      obtain ⟨tv, v1, v2⟩ := fB1 hS hg hp (e := e) (by omega) hF2 (fun i i1 i2 => hM i i1 (by omega)) FU 0 _ (by omega) (by unfold FU; omega) ini
      have sp := SP_f (g := gdOf w h) (b := b) (m := m) (n := b - m) (p := p) (k := gT (gdOf w h) p) (by omega) (e - m) (by omega) he3
      rw [show b - m - (e - m) = b - e by omega] at sp
      have res : fX5_fillBegun 149 (nI p) (nI m) σ = some (sJ σ 151 (m * 10 + p) tv) := by
        rw [hpg]
        unfold fX5_fillBegun_b65
        exact v1.trans (fin tv)
      rcases v2 with ⟨q1, y, rfl, rfl⟩ | ⟨q1, rfl⟩
      · obtain ⟨C, D, d1, d2, d3⟩ := hF' y rfl
        obtain ⟨D', w1, w2⟩ := ws_b (g := gdOf w h) (p := p) (m := m) (by omega) (e - m) (by omega)
        rw [show m + (e - m) = e by omega] at w2
        have h9 := ee_le m
        refine ⟨some (ws (gdOf w h) p m (e - m) + y), ⟨⟨c, (sp _).mpr ⟨fun _ => hp, q1, y, hL.1, rfl⟩⟩, ?_⟩, ?_⟩
        · rintro x ⟨-, hx⟩
          obtain ⟨-, -, z, z1, z2⟩ := (sp x).mp hx
          have := hL.2 z z1
          omega
        · rw [res]
          show some (sJ σ 151 (m * 10 + p) (lN (y / 1000000000000000000000000 + cs (gdOf w h) p m (e - m)))) = some (sJ σ 151 (m * 10 + p) (lN ((ws (gdOf w h) p m (e - m) + y) / 1000000000000000000000000)))
          rw [show y / 1000000000000000000000000 + cs (gdOf w h) p m (e - m) = (ws (gdOf w h) p m (e - m) + y) / 1000000000000000000000000 by omega]
      · refine ⟨none, ?_, res⟩
        rintro x ⟨-, hx⟩
        obtain ⟨-, z0, z, z1, z2⟩ := (sp x).mp hx
        rcases q1 with q1 | q1
        · exact q1 z0
        · subst q1
          exact hL z z1
    by_cases c2 : m + (w.2.1 p).2.1 < b
    · obtain ⟨o, o1, o2⟩ := hF (m + (w.2.1 p).2.1) (by omega) c2
      refine go o (m + (w.2.1 p).2.1) (by omega) (by omega) (by omega) ?_ ?_
      · rw [show gT (gdOf w h) p - (m + (w.2.1 p).2.1 - m) = 0 by omega]
        exact o1
      · rw [hd0, b2s, if_pos c, if_neg (by decide), v_fIP hS hb (by omega), bs, l2, u_fI149 hS, bs, e6, nI_add, if_neg (nI_nlt (by omega) (by omega)), bd_, bs, if_neg (nI_ge c2 (by omega)), u_R149_2 hS, bs, slt (by omega) (by omega), b2s, u_a152 hS (by omega), bs, o2]
    · refine go (some 0) b hmb (Nat.le_refl _) (by omega) ?_ ?_
      · rw [show b - b = 0 by omega]
        exact ⟨rfl, fun x _ => Nat.zero_le _⟩
      · have e12 : (if nI b < nI (m + (w.2.1 p).2.1) then nI b else nI (m + (w.2.1 p).2.1)) = nI b := by
          by_cases c3 : b < m + (w.2.1 p).2.1
          · rw [if_pos (nI_lt c3 (by omega))]
          · rw [show m + (w.2.1 p).2.1 = b by omega]
            split <;> rfl
        rw [hd0, b2s, if_pos c, if_neg (by decide), v_fIP hS hb (by omega), bs, l2, u_fI149 hS, bs, e6, nI_add, e12, bd_, bs, if_pos (nI_le (Nat.le_refl _) (by omega))]
        rfl
  · refine ⟨none, fun x hx => c hx.1, ?_⟩
    rw [hd0, b2s, if_neg c, if_pos rfl, fin]
    rfl
