/-! the groups -/
def pcn (s : Nat) : Nat := s % 2 + s / 2 % 2 + s / 4 % 2 + s / 8 % 2
theorem pcn_0 : ∀ s, s < 16 → pcn s = 0 → s = 0 := by decide
set_option maxRecDepth 100000 in
theorem pcn_x : ∀ s, s < 16 → ∀ g, g < 16 → okg g s = true → pcn (s ^^^ g) < pcn s := by decide +kernel
def gw (T : TB) : Nat → Nat → Nat → Option Nat
  | 0, _, _ => none
  | n + 1, s, h => if s = 0 then none else match gw T n (s ^^^ (T s).2) h with
    | some g => some g
    | none => if (T s).2.testBit h then some (T s).2 else none
def sel (o : Option Nat) (x : Int32) : Int32 := match o with
  | none => x
  | some g => nI g
theorem gw_b {A : Nat → Option Nat} {T : TB} (hA : okA A) (hT : okT A T) : ∀ n s h g, s < 16 → (T s).1 ≠ none → gw T n s h = some g → 1 ≤ g ∧ g < 16 := by
  intro n
  induction n with
  | zero => intro s h g _ _ hg; cases hg
  | succ n ih =>
    intro s h g hs hn hg
    have hg : (if s = 0 then none else match gw T n (s ^^^ (T s).2) h with
      | some g => some g
      | none => if (T s).2.testBit h then some (T s).2 else none) = some g := hg
    by_cases c : s = 0
    · rw [if_pos c] at hg; cases hg
    · rw [if_neg c] at hg
      cases ez : (T s).1 with
      | none => exact absurd ez hn
      | some z =>
        obtain ⟨o1, o2, o3, y, o4⟩ := (T_f hA hT s hs z ez).2 (by omega)
        obtain ⟨x1, x2, x3, x4⟩ := okg_x s hs (T s).2 (by omega) o1
        cases e : gw T n (s ^^^ (T s).2) h with
        | some u =>
          rw [e] at hg
          cases hg
          exact ih _ h g (by omega) (by rw [o4]; simp) e
        | none =>
          rw [e] at hg
          by_cases c2 : (T s).2.testBit h = true
          · have hg : (if (T s).2.testBit h then some (T s).2 else none) = some g := hg
            rw [if_pos c2] at hg
            cases hg
            omega
          · have hg : (if (T s).2.testBit h then some (T s).2 else none) = some g := hg
            rw [if_neg c2] at hg
            cases hg
theorem wC30 {s g : Nat} {x : Int32} {rc : Nat → Int32 → Int32 → Mem → Option (Mem)} (hs : s < 16) (hg : g < 16) (hok : okg g s = true) (n : Nat) : ∀ h σ, ST σ → h ≤ 4 → 4 < h + n → ∃ τ, fX1_writeGroups_b30 rc n 154 (nI s) x (nI g) (nI h) σ = rc 154 (nI (s ^^^ g)) (x + 1) τ ∧ Fr (fun c _ => c = 158) σ τ ∧ (∀ j, h ≤ j → j < 4 → gI τ 158 j = if g.testBit j then nI g else gI σ 158 j) ∧ ∀ j, j < h → gI τ 158 j = gI σ 158 j := by
  induction n with
  | zero => intro h σ _ _ hn; omega
  | succ n ih =>
    intro h σ hS hh hn
    rw [fX1_writeGroups_b30]
    by_cases c : h < 4
    · rw [w_4, if_neg (nI_ge c (by decide)), bit_ g hg h c]
      by_cases t : g.testBit h = true
      · obtain ⟨τ, t1, t2, t3, t4⟩ := ih (h + 1) _ (q_sI hS 158 h (nI g)) (by omega) (by omega)
        refine ⟨τ, ?_, Fr.tr (Fr.cI (Fr.refl hS) rfl) t2, fun j j1 j2 => ?_, fun j hj => ?_⟩
        · rw [if_pos t, if_neg (by decide), u_R154_3 hS, bs, u_w158 hS c, bs]
          unfold fX1_writeGroups_b53
          rw [bd_, nI_1]
          exact t1
        · by_cases e : j = h
          · subst e
            rw [t4 j (by omega), gI_sI1, if_pos t]
          · rw [t3 j (by omega) j2, gI_sI2 (by omega)]
        · rw [t4 j (by omega), gI_sI2 (by omega)]
      · obtain ⟨τ, t1, t2, t3, t4⟩ := ih (h + 1) σ hS (by omega) (by omega)
        refine ⟨τ, ?_, t2, fun j j1 j2 => ?_, fun j hj => t4 j (by omega)⟩
        · rw [if_neg t, if_pos rfl]
          unfold fX1_writeGroups_b53
          rw [bd_, nI_1]
          exact t1
        · by_cases e : j = h
          · subst e
            rw [t4 j (by omega), if_neg t]
          · exact t3 j (by omega) j2
    · have : h = 4 := by omega
      subst this
      rw [if_pos (by decide)]
      unfold fX1_writeGroups_b59
      rw [bd_, (okg_x s hs g hg hok).2.2.2, bd_]
      exact ⟨σ, rfl, Fr.refl hS, fun j j1 j2 => by omega, fun _ _ => rfl⟩
theorem wM224 {s g : Nat} {rc : Nat → Int32 → Mem → Option (Int64 × Mem)} (hs : s < 16) (hg : g < 16) (hok : okg g s = true) (n : Nat) : ∀ h σ, ST σ → h ≤ 4 → 4 < h + n → ∃ τ, fX9_bills_b224 rc n 304 (nI s) (nI g) (nI h) σ = rc 304 (nI (s ^^^ g)) τ ∧ Fr (fun c _ => c = 327) σ τ ∧ (∀ j, h ≤ j → j < 4 → gI τ 327 j = if g.testBit j then nI g else gI σ 327 j) ∧ ∀ j, j < h → gI τ 327 j = gI σ 327 j := by
  induction n with
  | zero => intro h σ _ _ hn; omega
  | succ n ih =>
    intro h σ hS hh hn
    rw [fX9_bills_b224]
    by_cases c : h < 4
    · rw [w_4, if_neg (nI_ge c (by decide)), bit_ g hg h c]
      by_cases t : g.testBit h = true
      · obtain ⟨τ, t1, t2, t3, t4⟩ := ih (h + 1) _ (q_sI hS 327 h (nI g)) (by omega) (by omega)
        refine ⟨τ, ?_, Fr.tr (Fr.cI (Fr.refl hS) rfl) t2, fun j j1 j2 => ?_, fun j hj => ?_⟩
        · rw [if_pos t, if_pos rfl, u_R304_39 hS, bs, u_w327 hS c, bs]
          unfold fX9_bills_b245
          rw [bd_, nI_1]
          exact t1
        · by_cases e : j = h
          · subst e
            rw [t4 j (by omega), gI_sI1, if_pos t]
          · rw [t3 j (by omega) j2, gI_sI2 (by omega)]
        · rw [t4 j (by omega), gI_sI2 (by omega)]
      · obtain ⟨τ, t1, t2, t3, t4⟩ := ih (h + 1) σ hS (by omega) (by omega)
        refine ⟨τ, ?_, t2, fun j j1 j2 => ?_, fun j hj => t4 j (by omega)⟩
        · rw [if_neg t, if_neg (by decide)]
          unfold fX9_bills_b245
          rw [bd_, nI_1]
          exact t1
        · by_cases e : j = h
          · subst e
            rw [t4 j (by omega), if_neg t]
          · exact t3 j (by omega) j2
    · have : h = 4 := by omega
      subst this
      rw [if_pos (by decide)]
      unfold fX9_bills_b251
      rw [bd_, (okg_x s hs g hg hok).2.2.2]
      exact ⟨σ, rfl, Fr.refl hS, fun j j1 j2 => by omega, fun _ _ => rfl⟩
theorem sel_s {T : TB} {n s h : Nat} {x y : Int32} (hs : s ≠ 0) (hy : y = if (T s).2.testBit h then nI (T s).2 else x) : sel (gw T n (s ^^^ (T s).2) h) y = sel (gw T (n + 1) s h) x := by
  have e : gw T (n + 1) s h = (if s = 0 then none else match gw T n (s ^^^ (T s).2) h with
    | some g => some g
    | none => if (T s).2.testBit h then some (T s).2 else none) := rfl
  rw [e, if_neg hs]
  cases gw T n (s ^^^ (T s).2) h with
  | some g => rfl
  | none =>
    show y = sel (if (T s).2.testBit h then some (T s).2 else none) x
    rw [hy]
    split <;> rfl
theorem wC5 {A : Nat → Option Nat} {T : TB} (hA : okA A) (hT : okT A T) (n : Nat) : ∀ s t N σ, ST σ → (∀ u, u < 16 → 1 ≤ u → (T u).1 ≠ none → gI σ 157 u = nI (T u).2) → s < 16 → (T s).1 ≠ none → pcn s ≤ n → t + n = 4 → n < N → ∃ τ, fX1_writeGroups_b5 N 154 (nI s) (nI t) σ = some τ ∧ Fr (fun c _ => c = 158) σ τ ∧ ∀ h, h < 4 → gI τ 158 h = sel (gw T n s h) (gI σ 158 h) := by
  induction n with
  | zero =>
    intro s t N σ hS h7 hs hn hp ht hN
    obtain ⟨N, rfl⟩ : ∃ M, N = M + 1 := ⟨N - 1, by omega⟩
    have : t = 4 := by omega
    subst this
    rw [fX1_writeGroups_b5, if_pos (by decide)]
    exact ⟨σ, rfl, Fr.refl hS, fun h hh => rfl⟩
  | succ n ih =>
    intro s t N σ hS h7 hs hn hp ht hN
    obtain ⟨N, rfl⟩ : ∃ M, N = M + 1 := ⟨N - 1, by omega⟩
    rw [fX1_writeGroups_b5, w_4, if_neg (nI_ge (by omega) (by decide))]
    by_cases c : s = 0
    · subst c
      rw [if_pos (by decide)]
      exact ⟨σ, rfl, Fr.refl hS, fun h hh => rfl⟩
    · rw [if_neg (by rw [w_0]; exact nI_ge (by omega) (by omega)), w_15, if_neg (nI_nlt (by omega) (by decide)), u_R154_2 hS, bs, u_a157 hS hs, bs, h7 s hs (by omega) hn]
      cases ez : (T s).1 with
      | none => exact absurd ez hn
      | some z =>
        obtain ⟨o1, o2, o3, y, o4⟩ := (T_f hA hT s hs z ez).2 (by omega)
        obtain ⟨x1, x2, x3, x4⟩ := okg_x s hs (T s).2 (by omega) o1
        have px := pcn_x s hs (T s).2 (by omega) o1
        obtain ⟨τ, t1, t2, t3, -⟩ := wC30 (x := nI t) (rc := fX1_writeGroups_b5 N) hs (by omega) o1 FU 0 σ hS (by omega) (by unfold FU; omega)
        obtain ⟨υ, u1, u2, u3⟩ := ih (s ^^^ (T s).2) (t + 1) N τ t2.1 (fun u a1 a2 a3 => by rw [(t2.2 157 u (by omega)).1]; exact h7 u a1 a2 a3) (by omega) (by rw [o4]; simp) (by omega) (by omega) (by omega)
        refine ⟨υ, ?_, Fr.tr t2 u2, fun h hh => ?_⟩
        · rw [w_0, t1, nI_1]
          exact u1
        · rw [u3 h hh]
          exact sel_s c (t3 h (Nat.zero_le _) hh)
theorem wM211 {A : Nat → Option Nat} {T : TB} (hA : okA A) (hT : okT A T) (n : Nat) : ∀ s N σ, ST σ → (∀ u, u < 16 → 1 ≤ u → (T u).1 ≠ none → gI σ 326 u = nI (T u).2) → s < 16 → (T s).1 ≠ none → pcn s ≤ n → n < N → ∃ τ, fX9_bills_b211 N 304 (nI s) σ = some (gJ σ 325 15, τ) ∧ Fr (fun c _ => c = 327) σ τ ∧ ∀ h, h < 4 → gI τ 327 h = sel (gw T n s h) (gI σ 327 h) := by
  have fin (σ : Mem) (hS : ST σ) : fX9_bills_b260 304 σ = some (gJ σ 325 15, σ) := by
    unfold fX9_bills_b260
    rw [u_R304_37 hS, bs, w_15, u_a325 hS (by decide), bs]
  induction n with
  | zero =>
    intro s N σ hS h7 hs hn hp hN
    obtain ⟨N, rfl⟩ : ∃ M, N = M + 1 := ⟨N - 1, by omega⟩
    have : s = 0 := pcn_0 s hs (by omega)
    subst this
    rw [fX9_bills_b211, if_pos (by decide), fin σ hS]
    exact ⟨σ, rfl, Fr.refl hS, fun h hh => rfl⟩
  | succ n ih =>
    intro s N σ hS h7 hs hn hp hN
    obtain ⟨N, rfl⟩ : ∃ M, N = M + 1 := ⟨N - 1, by omega⟩
    rw [fX9_bills_b211]
    by_cases c : s = 0
    · subst c
      rw [if_pos (by decide), fin σ hS]
      exact ⟨σ, rfl, Fr.refl hS, fun h hh => rfl⟩
    · rw [if_neg (by rw [w_0]; exact nI_ge (by omega) (by omega)), u_R304_38 hS, bs, u_a326 hS hs, bs, h7 s hs (by omega) hn]
      cases ez : (T s).1 with
      | none => exact absurd ez hn
      | some z =>
        obtain ⟨o1, o2, o3, y, o4⟩ := (T_f hA hT s hs z ez).2 (by omega)
        obtain ⟨x1, x2, x3, x4⟩ := okg_x s hs (T s).2 (by omega) o1
        have px := pcn_x s hs (T s).2 (by omega) o1
        obtain ⟨τ, t1, t2, t3, -⟩ := wM224 (rc := fX9_bills_b211 N) hs (by omega) o1 FU 0 σ hS (by omega) (by unfold FU; omega)
        obtain ⟨υ, u1, u2, u3⟩ := ih (s ^^^ (T s).2) N τ t2.1 (fun u a1 a2 a3 => by rw [(t2.2 326 u (by omega)).1]; exact h7 u a1 a2 a3) (by omega) (by rw [o4]; simp) (by omega) (by omega)
        refine ⟨υ, ?_, Fr.tr t2 u2, fun h hh => ?_⟩
        · rw [w_0, t1, u1, (t2.2 325 15 (by omega)).2.1]
        · rw [u3 h hh]
          exact sel_s c (t3 h (Nat.zero_le _) hh)
/-! the loops over sets and groups -/
theorem pC9 {A : Nat → Option Nat} {T : TB} (hA : okA A) (hT : okT A T) (n : Nat) : ∀ s σ, ST σ → (∀ g, 1 ≤ g → g < 16 → gJ σ 155 g = ct (A g)) → (∀ t, t < s → gJ σ 156 t = ct (T t).1) → (∀ t, 1 ≤ t → t < s → (T t).1 ≠ none → gI σ 157 t = nI (T t).2) → 1 ≤ s → s ≤ 16 → 16 < s + n → ∃ τ, fX1_part_b9 n 154 (nI s) σ = fX1_part_b26 154 τ ∧ Fr (fun c _ => c = 156 ∨ c = 157) σ τ ∧ (∀ t, t < 16 → gJ τ 156 t = ct (T t).1) ∧ ∀ t, t < 16 → 1 ≤ t → (T t).1 ≠ none → gI τ 157 t = nI (T t).2 := by
  induction n with
  | zero => intro s σ _ _ _ _ _ _ hn; omega
  | succ n ih =>
    intro s σ hS h5 h6 h7 h1 h2 h3
    rw [fX1_part_b9]
    by_cases c : s < 16
    · obtain ⟨τ, t1, t2, t3, t4⟩ := fLe hA hT h1 c FU 0 σ hS h5 h6 (fun k => absurd rfl k) (Nat.zero_le _) (by unfold FU; omega)
      obtain ⟨υ, u1, u2, u3⟩ := ih (s + 1) τ t2.1 (fun g g1 g2 => by rw [(t2.2 155 g (by omega)).2.1]; exact h5 g g1 g2) (fun t ht => by
        by_cases e : t = s
        · subst e; exact t3
        · rw [(t2.2 156 t (by omega)).2.1]; exact h6 t (by omega)) (fun t a1 a2 a3 => by
        by_cases e : t = s
        · subst e; exact t4 a3
        · rw [(t2.2 157 t (by omega)).1]; exact h7 t a1 (by omega) a3) (by omega) (by omega) (by omega)
      refine ⟨υ, ?_, Fr.trans t2 u2 (by intro c k h; omega) (by intro c k h; omega), u3⟩
      have e1 : fX1_fillLeast 154 (nI s) σ = some τ := t1
      rw [w_15, if_neg (nI_nlt (by omega) (by omega)), u_kT154 hS, bs, e1, bs, bd_, nI_1]
      exact u1
    · have : s = 16 := by omega
      subst this
      rw [if_pos (by decide)]
      exact ⟨σ, rfl, Fr.refl hS, h6, fun t a1 a2 a3 => h7 t a2 a1 a3⟩
theorem pM60 {A : Nat → Option Nat} {T : TB} (hA : okA A) (hT : okT A T) (n : Nat) : ∀ s σ, ST σ → (∀ g, 1 ≤ g → g < 16 → gJ σ 324 g = dt (A g)) → (∀ t, t < s → gJ σ 325 t = dt (T t).1) → (∀ t, 1 ≤ t → t < s → (T t).1 ≠ none → gI σ 326 t = nI (T t).2) → 1 ≤ s → s ≤ 16 → 16 < s + n → ∃ τ, fX9_bills_b60 n 304 (nI s) σ = fX9_bills_b190 304 τ ∧ Fr (fun c _ => c = 325 ∨ c = 326) σ τ ∧ (∀ t, t < 16 → gJ τ 325 t = dt (T t).1) ∧ ∀ t, t < 16 → 1 ≤ t → (T t).1 ≠ none → gI τ 326 t = nI (T t).2 := by
  induction n with
  | zero => intro s σ _ _ _ _ _ _ hn; omega
  | succ n ih =>
    intro s σ hS h5 h6 h7 h1 h2 h3
    rw [fX9_bills_b60]
    by_cases c : s < 16
    · have S1 := q_sJ hS 325 s (1000000000000000)
      obtain ⟨τ, t1, t2, t3, t4⟩ := fLe9 (rc := fX9_bills_b60 n) hA hT h1 c FU 0 _ S1 (fun g g1 g2 => by rw [gJ_sJ2 (by omega)]; exact h5 g g1 g2) (fun t ht => by rw [gJ_sJ2 (by omega)]; exact h6 t ht) gJ_sJ1 (fun k => absurd rfl k) (Nat.zero_le _) (by unfold FU; omega)
      have F : Fr (fun c _ => c = 325 ∨ c = 326) σ τ := Fr.trans (Fr.cJ (Fr.refl (p := fun c _ => c = 325 ∨ c = 326) hS) (by simp)) t2 (fun _ _ h => h) (by intro c k h; omega)
      obtain ⟨υ, u1, u2, u3⟩ := ih (s + 1) τ t2.1 (fun g g1 g2 => by rw [(F.2 324 g (by omega)).2.1]; exact h5 g g1 g2) (fun t ht => by
        by_cases e : t = s
        · subst e; exact t3
        · rw [(t2.2 325 t (by omega)).2.1, gJ_sJ2 (by omega)]; exact h6 t (by omega)) (fun t a1 a2 a3 => by
        by_cases e : t = s
        · subst e; exact t4 a3
        · rw [(t2.2 326 t (by omega)).1]; exact h7 t a1 (by omega) a3) (by omega) (by omega) (by omega)
      refine ⟨υ, ?_, Fr.tr F u2, u3⟩
      rw [w_16, if_neg (nI_ge c (by omega)), u_R304_37 hS, bs, u_w325 hS c, bs]
      exact Eq.trans t1 u1
    · have : s = 16 := by omega
      subst this
      rw [if_pos (by decide)]
      exact ⟨σ, rfl, Fr.refl hS, h6, fun t a1 a2 a3 => h7 t a2 a1 a3⟩
def okW' (w : WD) (A : Nat → Option Nat) : Prop := ∀ g, 1 ≤ g → g < 16 → ∃ o, Lst (FP (gdOf w g) 0 24 0) o ∧ A g = o.map (fun v => v / 1000000000000000000000000)
theorem bC2 {B : Nat} {w : WD} {A : Nat → Option Nat} (hw : okW w) (hA : okW' w A) (n : Nat) : ∀ g σ, ST σ → H8 σ B w → gR σ 0 8 = some B → (∀ k, 1 ≤ k → k < g → gJ σ 155 k = ct (A k)) → 1 ≤ g → g ≤ 16 → 16 < g + n → ∃ τ, fX8_bills_b2 n 0 (nI g) σ = fX8_bills_b45 0 τ ∧ Fr (fun c _ => (148 ≤ c ∧ c ≤ 153) ∨ c = 155) σ τ ∧ ∀ k, 1 ≤ k → k < 16 → gJ τ 155 k = ct (A k) := by
  induction n with
  | zero => intro s σ _ _ _ _ _ _ hn; omega
  | succ n ih =>
    intro g σ hS h8 hB h5 h1 h2 h3
    rw [fX8_bills_b2]
    by_cases c : g < 16
    · obtain ⟨o, τ, t1, t2, -, t4, -, -⟩ := srch (h := g) hS hw h8 c (by decide : 0 < 24) (Nat.le_refl _)
      obtain ⟨o', k1, k2⟩ := hA g h1 c
      have := Lst_u k1 t4
      subst this
      have S1 := q_sJ t2.1 155 g (ct (A g))
      have F : Fr (fun c _ => (148 ≤ c ∧ c ≤ 153) ∨ c = 155) σ (sJ τ 155 g (ct (A g))) := Fr.cJ (Fr.mono t2 (by intro c k h; omega)) (by simp)
      obtain ⟨υ, u1, u2, u3⟩ := ih (g + 1) _ S1 (H8_Fr F hw (fun c hc k q => by unfold inBk at hc; omega) (fun k q => by omega) (fun q => by omega) h8) ((F.2 0 8 (by omega)).2.2.trans hB) (fun k a1 a2 => by
        by_cases e : k = g
        · subst e; exact gJ_sJ1
        · rw [gJ_sJ2 (by omega), (t2.2 155 k (by omega)).2.1]; exact h5 k a1 (by omega)) (by omega) (by omega) (by omega)
      refine ⟨υ, ?_, Fr.tr F u2, u3⟩
      have ts : fX5_search 149 (some B) (some 146) (nI g) 0 24 (nI w.2.2.2) σ = some (cst o', τ) := t1
      rw [w_15, if_neg (nI_nlt (by omega) (by omega)), u_R0_4 hS, bs, u_R0_3 hS, bs, u_R0_8 hS, bs, hB, u_R0_2 hS, bs, u_fI0 hS, bs, h8.2.2.2.2, u_kT149 hS, bs, ts, b2s, u_kT154 t2.1, bs, cst_ct, ← k2]
      unfold fX1_tellBest
      rw [w_1, w_15, iwN (by omega) (by decide) (by decide), if_pos (by omega), b2s, if_neg (by decide), u_R154_0 t2.1, bs, u_w155 t2.1 c, bs]
      unfold fX1_tellBest_b17
      rw [bs, bd_, nI_add]
      exact u1
    · have : g = 16 := by omega
      subst this
      rw [if_pos (by decide)]
      exact ⟨σ, rfl, Fr.refl hS, h5⟩
theorem bM7 {w : WD} {A : Nat → Option Nat} (hw : okW w) (hA : okW' w A) (n : Nat) : ∀ g σ, ST σ → H9 σ w → (∀ k, 1 ≤ k → k < g → gJ σ 324 k = dt (A k)) → 1 ≤ g → g ≤ 16 → 16 < g + n → ∃ τ, fX9_bills_b7 n 304 (nI g) σ = fX9_bills_b51 304 τ ∧ Fr (fun c _ => (319 ≤ c ∧ c ≤ 322) ∨ c = 324) σ τ ∧ ∀ k, 1 ≤ k → k < 16 → gJ τ 324 k = dt (A k) := by
  induction n with
  | zero => intro s σ _ _ _ _ _ hn; omega
  | succ n ih =>
    intro g σ hS h9 h5 h1 h2 h3
    rw [fX9_bills_b7]
    by_cases c : g < 16
    · obtain ⟨o, r, τ, t1, t2, t3, t4⟩ := find_ (h := g) hS hw h9 c (by decide : 0 < 24) (Nat.le_refl _)
      obtain ⟨o', k1, k2⟩ := hA g h1 c
      have := Lst_u k1 t3
      subst this
      have S1 := q_sJ t2.1 324 g (dt (A g))
      have F : Fr (fun c _ => (319 ≤ c ∧ c ≤ 322) ∨ c = 324) σ (sJ τ 324 g (dt (A g))) := Fr.cJ (Fr.mono t2 (by intro c k h; unfold fr4 at h; omega)) (by simp)
      obtain ⟨υ, u1, u2, u3⟩ := ih (g + 1) _ S1 (H9_Fr F (fun c hc k q => by unfold inBk at hc; omega) (fun k q => by omega) (fun q => by omega) (fun q => by omega) h9) (fun k a1 a2 => by
        by_cases e : k = g
        · subst e; exact gJ_sJ1
        · rw [gJ_sJ2 (by omega), (t2.2 324 k (by unfold fr4; omega)).2.1]; exact h5 k a1 (by omega)) (by omega) (by omega) (by omega)
      refine ⟨υ, ?_, Fr.tr F u2, u3⟩
      have tf : fX9_find 304 (nI g) 0 24 σ = some (r, τ) := t1
      rw [w_16, if_neg (nI_ge c (by decide)), u_kT304 hS, bs, tf, b2s, u_R304_36 t2.1, bs]
      have fin : fX9_bills_b44 (fX9_bills_b7 n) 304 (nI g) (dt (A g)) (nI g) (some 324) τ = fX9_bills_b51 304 υ := by
        unfold fX9_bills_b44
        rw [u_w324 t2.1 c, bs, bd_, nI_1]
        exact u1
      rcases t4 with ⟨rfl, rfl⟩ | ⟨v, s, rfl, s1, rfl, cc, f, s2, s3, s4, s5⟩
      · rw [if_pos rfl]
        rw [k2] at fin
        exact fin
      · have d1 := cd_b (f := f) (a := 0) (n := 24 - 0) (by omega) (fun j hj => (s4 j hj).1)
        rw [if_neg (by rw [w_1, m1_ne (by omega)]; exact id), u_R304_29 t2.1, bs, u_a319 t2.1 s1, bs, s3]
        have e : dt (A g) = lN cc := by
          rw [k2]
          show lN (v / 1000000000000000000000000) = lN cc
          rw [show v / 1000000000000000000000000 = cc by omega]
        rw [e] at fin
        exact fin
    · have : g = 16 := by omega
      subst this
      rw [if_pos (by decide)]
      exact ⟨σ, rfl, Fr.refl hS, h5⟩
theorem op_bills : OpL Rel (fX8_bills 0) (fX9_bills 304) := by
  intro σ h
  have hS := h.1
  obtain ⟨B, w, hw, h8, h9, hB⟩ := wd_of h
  have exA : ∀ g, ∃ x : Option Nat, 1 ≤ g → g < 16 → ∃ o, Lst (FP (gdOf w g) 0 24 0) o ∧ x = o.map (fun v => v / 1000000000000000000000000) := by
    intro g
    by_cases c : 1 ≤ g ∧ g < 16
    · obtain ⟨o, τ, -, -, -, t4, -, -⟩ := srch (h := g) hS hw h8 c.2 (by decide : 0 < 24) (Nat.le_refl _)
      exact ⟨o.map (fun v => v / 1000000000000000000000000), fun _ _ => ⟨o, t4, rfl⟩⟩
    · exact ⟨none, fun h1 h2 => absurd ⟨h1, h2⟩ c⟩
  obtain ⟨A0, hA0⟩ := Classical.skolem.mp exA
  have ex2 : ∃ A, okW' w A ∧ okA A := by
    refine ⟨fun g => if 1 ≤ g ∧ g < 16 then A0 g else none, fun g h1 h2 => ?_, fun g x hx => ?_⟩
    · obtain ⟨o, o1, o2⟩ := hA0 g h1 h2
      refine ⟨o, o1, ?_⟩
      show (if 1 ≤ g ∧ g < 16 then A0 g else none) = _
      rw [if_pos ⟨h1, h2⟩]; exact o2
    · have hx : (if 1 ≤ g ∧ g < 16 then A0 g else none) = some x := hx
      by_cases c : 1 ≤ g ∧ g < 16
      · rw [if_pos c] at hx
        obtain ⟨o, o1, o2⟩ := hA0 g c.1 c.2
        rw [o2] at hx
        cases o with
        | none => cases hx
        | some v =>
          have hx : some (v / 1000000000000000000000000) = some x := hx
          cases hx
          obtain ⟨q, q1, q2⟩ := (FP_B (gd_ok hw) (by decide : 0 < 24)).mp o1.1
          obtain ⟨C, D, b1, b2', b3⟩ := SP_b (gd_ok hw) (Nat.le_refl 24) 24 0 _ _ v (by omega) q2.2
          have := ee_le 0
          omega
      · rw [if_neg c] at hx; cases hx
  obtain ⟨A, hA1, hA⟩ := ex2
  obtain ⟨T, hT⟩ := tb_ex A
  obtain ⟨τ1, a1, a2, a3⟩ := bC2 hw hA1 FU 1 σ hS h8 hB (fun k k1 k2 => by omega) (Nat.le_refl _) (by omega) (by unfold FU; omega)
  have S2 := q_sJ a2.1 156 0 0
  obtain ⟨τ2, b1, b2', b3, b4⟩ := pC9 hA hT FU 1 _ S2 (fun g g1 g2 => by rw [gJ_sJ2 (by omega)]; exact a3 g g1 g2) (fun t ht => by
    have : t = 0 := by omega
    subst this
    rw [gJ_sJ1, hT.1]
    rfl) (fun t t1 t2 => by omega) (Nat.le_refl _) (by omega) (by unfold FU; omega)
  have F2 : Fr (fun c _ => (148 ≤ c ∧ c ≤ 153) ∨ (155 ≤ c ∧ c ≤ 157)) σ τ2 := Fr.trans (Fr.cJ (Fr.mono a2 (q := fun c _ => (148 ≤ c ∧ c ≤ 153) ∨ (155 ≤ c ∧ c ≤ 157)) (by intro c k h; omega)) (by simp)) b2' (fun _ _ h => h) (by intro c k h; omega)
  -- the class
  have x8 : fX8_bills 0 σ = b2 (fX1_part_b26 154 τ2) fun t3 m4 => some (t3, m4) := by
    unfold fX8_bills
    rw [w_1, a1]
    unfold fX8_bills_b45
    rw [u_R0_4 a2.1, bs, u_kT154 a2.1, bs]
    unfold fX1_part
    rw [u_R154_1 a2.1, bs, w_0, u_w156 a2.1 (by decide), bs]
    have e : fX1_part_b9 FU 154 1 (sJ τ1 156 0 0) = fX1_part_b26 154 τ2 := b1
    rw [e]
  -- the reference
  have x9 (υ : Mem) (k1 : ST υ) (k2 : H9 υ w) : ∃ χ, fX9_bills 304 υ = fX9_bills_b190 304 χ ∧ Fr (fun c k => (c = 304 ∧ k = 0) ∨ (319 ≤ c ∧ c ≤ 322) ∨ (324 ≤ c ∧ c ≤ 326)) υ χ ∧ (∀ t, t < 16 → gJ χ 325 t = dt (T t).1) ∧ ∀ t, t < 16 → 1 ≤ t → (T t).1 ≠ none → gI χ 326 t = nI (T t).2 := by
    have k3 := q_sI k1 304 0 0
    have k4 : H9 (sI υ 304 0 0) w := H9_fr (fun c hc => gI_sI_n (nBk hc (by simp [inBk]))) (gI_sI_n (by decide)) (gI_sI2 (by decide)) (gI_sI2 (by decide)) k2
    obtain ⟨χ1, c1, c2, c3⟩ := bM7 hw hA1 FU 1 _ k3 k4 (fun k k1 k2 => by omega) (Nat.le_refl _) (by omega) (by unfold FU; omega)
    have S4 := q_sJ c2.1 325 0 0
    obtain ⟨χ2, d1, d2, d3, d4⟩ := pM60 hA hT FU 1 _ S4 (fun g g1 g2 => by rw [gJ_sJ2 (by omega)]; exact c3 g g1 g2) (fun t ht => by
      have : t = 0 := by omega
      subst this
      rw [gJ_sJ1, hT.1]
      rfl) (fun t t1 t2 => by omega) (Nat.le_refl _) (by omega) (by unfold FU; omega)
    refine ⟨χ2, ?_, ?_, d3, d4⟩
    · unfold fX9_bills
      rw [u_pI304 k1, bs, w_1, c1]
      unfold fX9_bills_b51
      rw [u_R304_37 c2.1, bs, w_0, u_w325 c2.1 (by decide), bs]
      exact d1
    · exact Fr.trans (Fr.cJ (Fr.tr (Fr.cI (Fr.refl (p := fun c k => (c = 304 ∧ k = 0) ∨ (319 ≤ c ∧ c ≤ 322) ∨ (324 ≤ c ∧ c ≤ 326)) k1) (by simp)) (Fr.mono c2 (by intro c k h; omega))) (by simp)) d2 (fun _ _ h => h) (by intro c k h; omega)
  have b26 : fX1_part_b26 154 τ2 = if ct (T 15).1 = -1 then some (ct (T 15).1, τ2) else (fX1_writeGroups 154 τ2).bind fun m5 => fX1_part_b44 154 m5 := by
    unfold fX1_part_b26
    rw [u_R154_1 b2'.1, bs, w_15, u_a156 b2'.1 (by decide), bs, b3 15 (by decide), u_kT154 b2'.1, bs]
    unfold fX1_part_b44
    rw [u_R154_1 b2'.1, bs, w_15, u_a156 b2'.1 (by decide), bs, b3 15 (by decide)]
  have lit : (1000000000000000 : Int64) = lN 1000000000000000 := rfl
  cases ez : (T 15).1 with
  | none =>
    have k2 : H9 τ2 w := H9_Fr F2 (fun c hc k q => by unfold inBk at hc; omega) (fun k q => by omega) (fun q => by omega) (fun q => by omega) h9
    obtain ⟨χ, c1, c2, c3, c4⟩ := x9 τ2 b2'.1 k2
    rw [ez, show ct none = -1 from rfl, if_pos rfl] at b26
    refine ⟨-1, τ2, χ, by rw [x8, b26]; rfl, k9 b2'.1, ?_, ?_⟩
    · rw [c1]
      unfold fX9_bills_b190
      rw [u_R304_37 c2.1, bs, w_15, u_a325 c2.1 (by decide), bs, c3 15 (by decide), ez, if_pos (show dt none = (1000000000000000 : Int64) from rfl)]
    · exact Rel_Fr (p := fun c k => (148 ≤ c ∧ c ≤ 153) ∨ (155 ≤ c ∧ c ≤ 157) ∨ (c = 304 ∧ k = 0) ∨ (319 ≤ c ∧ c ≤ 322) ∨ (324 ≤ c ∧ c ≤ 326)) (Fr.tr (Fr.mono F2 (by intro c k h; omega)) (Fr.mono c2 (by intro c k h; omega))) (by intro c k hk; unfold rl inBk; omega) h
  | some z =>
    have hz := T_b hA hT (by decide) ez
    have hn : (T 15).1 ≠ none := by rw [ez]; simp
    obtain ⟨τ3, e1, e2, e3⟩ := wC5 hA hT 4 15 0 FU τ2 b2'.1 b4 (by decide) hn (by decide) rfl (by unfold FU; omega)
    have F3 : Fr (fun c _ => (148 ≤ c ∧ c ≤ 153) ∨ (155 ≤ c ∧ c ≤ 158)) σ τ3 := Fr.trans F2 e2 (by intro c k h; omega) (by intro c k h; omega)
    have k2 : H9 τ3 w := H9_Fr F3 (fun c hc k q => by unfold inBk at hc; omega) (fun k q => by omega) (fun q => by omega) (fun q => by omega) h9
    obtain ⟨χ, c1, c2, c3, c4⟩ := x9 τ3 e2.1 k2
    obtain ⟨χ2, f1, f2, f3⟩ := wM211 hA hT 4 15 FU χ c2.1 c4 (by decide) hn (by decide) (by unfold FU; omega)
    have e0 : fX1_writeGroups 154 τ2 = some τ3 := e1
    refine ⟨lN z, τ3, χ2, ?_, k9 e2.1, ?_, ?_⟩
    · rw [x8, b26, ez, show ct (some z) = lN z from rfl, if_neg (by rw [lm1_ne (by omega)]; exact id), e0, bs]
      unfold fX1_part_b44
      rw [u_R154_1 e2.1, bs, w_15, u_a156 e2.1 (by decide), bs, b2s, (e2.2 156 15 (by omega)).2.1, b3 15 (by decide), ez]
      rfl
    · rw [c1]
      unfold fX9_bills_b190
      rw [u_R304_37 c2.1, bs, w_15, u_a325 c2.1 (by decide), bs, c3 15 (by decide), ez, show dt (some z) = lN z from rfl, lit, if_neg (by rw [pk_lEQ (by omega) (by decide)]; omega), f1, c3 15 (by decide), ez]
      rfl
    · have F4 : Fr (fun c k => (148 ≤ c ∧ c ≤ 153) ∨ (155 ≤ c ∧ c ≤ 158) ∨ (c = 304 ∧ k = 0) ∨ (319 ≤ c ∧ c ≤ 322) ∨ (324 ≤ c ∧ c ≤ 327)) σ χ2 := Fr.tr (Fr.tr (Fr.mono F3 (by intro c k h; omega)) (Fr.mono c2 (by intro c k h; omega))) (Fr.mono f2 (by intro c k h; omega))
      obtain ⟨h0, h1, h2, h3, h4, h5, h6, h7, h8', h9'⟩ := h
      refine ⟨f2.1, c_tape F4 (by omega) (by omega) (by omega) (by omega) h1, c_flt F4 (by omega) (by omega) h2, c_use F4 (by omega) (by omega) h3, c_chg F4 (by omega) (by omega) h4, c_span F4 (by omega) (by omega) (by omega) (by omega) h5, c_row F4 (by omega) (by omega) (by omega) (by omega) h6, fun i hi => ?_, c_out F4 (by omega) (by omega) (by omega) (by omega) h8', R_book_Fr F4 (by unfold inBk; intro c hc k; omega) (by omega) (by omega) (by omega) h9'⟩
      have g1 : gI χ2 158 i = sel (gw T 4 15 i) (gI σ 158 i) := by
        rw [(f2.2 158 i (by omega)).1, (c2.2 158 i (by omega)).1, e3 i hi, (F2.2 158 i (by omega)).1]
      have g2 : gI χ2 327 i = sel (gw T 4 15 i) (gI σ 327 i) := by
        rw [f3 i hi, (c2.2 327 i (by omega)).1, (F3.2 327 i (by omega)).1]
      rw [g1, g2]
      cases eg : gw T 4 15 i with
      | none => exact h7 i hi
      | some g =>
        obtain ⟨l1, l2⟩ := gw_b hA hT 4 15 i g (by decide) hn eg
        show bN 15 (nI g) ∧ nI g = if nI g = 0 then -1 else nI g
        rw [if_neg (nI_ne0 (by omega) (by omega))]
        exact ⟨⟨g, by omega, rfl⟩, rfl⟩
