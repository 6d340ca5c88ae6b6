/-! plan, name, octet -/
theorem atP {σ : Mem} {b P p : Nat} (hS : ST σ) (hb : isB b) (hP : P ≤ 10) (e : gI σ b 1 = nI P) (hp : p < P) : fX3_at b (nI p) σ = some (some (Pl b p), σ) := by
  unfold fX3_at
  rw [if_neg (nI_pos (by omega)), v_fIB hS hb, bs, e, if_neg (nI_ge hp (by omega)), w_10, if_pos (nI_lt (by omega) (by decide)), v_RB hS hb, bs, v_aE hS hb (by omega), bs]
  rfl
theorem atN {σ : Mem} {b P : Nat} {x : Int32} (hS : ST σ) (hb : isB b) (hP : P ≤ 10) (e : gI σ b 1 = nI P) (hx : ¬ ∃ p, p < P ∧ x = nI p) : fX3_at b x σ = some (none, σ) := by
  unfold fX3_at
  by_cases c1 : x < 0
  · rw [if_pos c1]; rfl
  · obtain ⟨t, ht, rfl⟩ := nI_of c1
    have : ¬ t < P := fun q => hx ⟨t, q, rfl⟩
    rw [if_neg c1, v_fIB hS hb, bs, e, if_pos (nI_le (by omega) ht)]
    rfl
theorem isP1 {σ : Mem} {P p : Nat} (hS : ST σ) (hP : P ≤ 10) (e : gI σ 304 22 = nI P) (hp : p < P) : fX9_isPlan 304 (nI p) σ = some (1, σ) := by
  unfold fX9_isPlan
  rw [if_neg (nI_pos (by omega)), u_fI304 hS, bs, e, if_neg (nI_ge hp (by omega))]
  rfl
theorem isP0 {σ : Mem} {P : Nat} {x : Int32} (hS : ST σ) (hP : P ≤ 10) (e : gI σ 304 22 = nI P) (hx : ¬ ∃ p, p < P ∧ x = nI p) : fX9_isPlan 304 x σ = some (0, σ) := by
  unfold fX9_isPlan
  by_cases c1 : x < 0
  · rw [if_pos c1]; rfl
  · obtain ⟨t, ht, rfl⟩ := nI_of c1
    have : ¬ t < P := fun q => hx ⟨t, q, rfl⟩
    rw [if_neg c1, u_fI304 hS, bs, e, if_pos (nI_le (by omega) ht)]
    rfl
theorem bk_of {σ : Mem} (h : R_book σ) : ∃ b P, isB b ∧ P ≤ 10 ∧ gR σ 0 8 = some b ∧ gI σ b 1 = nI P ∧ gI σ 304 22 = nI P ∧ ∀ p, p < P → R_plan σ (Pl b p) p := by
  obtain ⟨b, b', hb, h1, h2, P, hP, h3, h4, h5⟩ := h
  refine ⟨b, P, ?_, hP, h1, h3, h4, h5⟩
  rcases hb with ⟨q, -⟩ | ⟨q, -⟩
  · exact Or.inl q
  · exact Or.inr q
theorem k12 {σ : Mem} (h : ST σ) : kd σ 330 = 12 := q_k h (by decide) rfl
theorem l330 {σ : Mem} (h : ST σ) : gL σ 330 = 1 := q_l h (by decide) rfl
theorem Rel_out {σ : Mem} (h : Rel σ) (v : Int64) : Rel (sJ σ 330 0 v) := Rel_Fr (p := fun c k => c = 330 ∧ k = 0) (FrsJ h.1 ⟨rfl, rfl⟩) (by rintro c k ⟨rfl, rfl⟩; unfold rl inBk; omega) h
theorem XI_no {σ σ1 : Mem} {fx : Mem → Option (Option Int32 × Mem)} {fm : Mem → Option (Int32 × Mem)} {b : Int32} (h : Rel σ1) (hx : fx σ = some (none, σ1)) (hm : fm σ1 = some (b, sI σ1 304 0 1)) : ∃ r σ1 b σ2, fx σ = some (r, σ1) ∧ kd σ1 330 = 12 ∧ gL σ1 330 = 1 ∧ kd (outI r σ1) 304 = 9 ∧ fm (outI r σ1) = some (b, σ2) ∧ kd σ2 304 = 9 ∧ gI σ2 304 0 = kof r ∧ kd σ2 330 = 12 ∧ gL σ2 330 = 1 ∧ (kof r = 0 → gJ σ2 330 0 = b.toInt64) ∧ Rel σ2 :=
  ⟨none, σ1, b, _, hx, k12 h.1, l330 h.1, k9 h.1, hm, k9 h.1, gI_sI1, k12 h.1, l330 h.1, fun q => absurd q (by decide), Rel_th h 1⟩
theorem XI_yes {σ σ1 : Mem} {fx : Mem → Option (Option Int32 × Mem)} {fm : Mem → Option (Int32 × Mem)} {v : Int32} (h : Rel σ1) (hx : fx σ = some (some v, σ1)) (hm : fm (sJ σ1 330 0 v.toInt64) = some (v, sI (sJ σ1 330 0 v.toInt64) 304 0 0)) : ∃ r σ1 b σ2, fx σ = some (r, σ1) ∧ kd σ1 330 = 12 ∧ gL σ1 330 = 1 ∧ kd (outI r σ1) 304 = 9 ∧ fm (outI r σ1) = some (b, σ2) ∧ kd σ2 304 = 9 ∧ gI σ2 304 0 = kof r ∧ kd σ2 330 = 12 ∧ gL σ2 330 = 1 ∧ (kof r = 0 → gJ σ2 330 0 = b.toInt64) ∧ Rel σ2 :=
  ⟨some v, σ1, v, _, hx, k12 h.1, l330 h.1, k9 (q_sJ h.1 _ _ _), hm, k9 h.1, gI_sI1, k12 h.1, l330 h.1, fun _ => gJ_sJ1, Rel_th (Rel_out h _) 0⟩
theorem XL_no {σ σ1 : Mem} {fx : Mem → Option (Option Int64 × Mem)} {fm : Mem → Option (Int64 × Mem)} {b : Int64} (h : Rel σ1) (hx : fx σ = some (none, σ1)) (hm : fm σ1 = some (b, sI σ1 304 0 1)) : ∃ r σ1 b σ2, fx σ = some (r, σ1) ∧ kd σ1 330 = 12 ∧ gL σ1 330 = 1 ∧ kd (outL r σ1) 304 = 9 ∧ fm (outL r σ1) = some (b, σ2) ∧ kd σ2 304 = 9 ∧ gI σ2 304 0 = kof r ∧ kd σ2 330 = 12 ∧ gL σ2 330 = 1 ∧ (kof r = 0 → gJ σ2 330 0 = b) ∧ Rel σ2 :=
  ⟨none, σ1, b, _, hx, k12 h.1, l330 h.1, k9 h.1, hm, k9 h.1, gI_sI1, k12 h.1, l330 h.1, fun q => absurd q (by decide), Rel_th h 1⟩
theorem XL_yes {σ σ1 : Mem} {fx : Mem → Option (Option Int64 × Mem)} {fm : Mem → Option (Int64 × Mem)} {v : Int64} (h : Rel σ1) (hx : fx σ = some (some v, σ1)) (hm : fm (sJ σ1 330 0 v) = some (v, sI (sJ σ1 330 0 v) 304 0 0)) : ∃ r σ1 b σ2, fx σ = some (r, σ1) ∧ kd σ1 330 = 12 ∧ gL σ1 330 = 1 ∧ kd (outL r σ1) 304 = 9 ∧ fm (outL r σ1) = some (b, σ2) ∧ kd σ2 304 = 9 ∧ gI σ2 304 0 = kof r ∧ kd σ2 330 = 12 ∧ gL σ2 330 = 1 ∧ (kof r = 0 → gJ σ2 330 0 = b) ∧ Rel σ2 :=
  ⟨some v, σ1, v, _, hx, k12 h.1, l330 h.1, k9 (q_sJ h.1 _ _ _), hm, k9 h.1, gI_sI1, k12 h.1, l330 h.1, fun _ => gJ_sJ1, Rel_th (Rel_out h _) 0⟩
/-- the services as bits -/
theorem pbits {σ : Mem} {p sv : Nat} {x2 : Int32} (hS : ST σ) (hp : p < 20) (hh : ∀ i, i < 4 → gI σ 311 (4 * p + i) = (if sv.testBit i then 1 else 0)) (hsv : sv < 16) : fX9_plan_b32 FU 304 (nI p) x2 0 0 σ = fX9_plan_b65 304 (nI p) x2 (nI sv) σ := by
  have st (n i : Nat) (hi : i < 4) (x3 : Int32) : fX9_plan_b32 (n + 1) 304 (nI p) x2 x3 (nI i) σ = fX9_plan_b32 n 304 (nI p) x2 (if sv.testBit i then x3 ||| (1 <<< (nI i &&& 31)) else x3) (nI (i + 1)) σ := by
    show (if 4 ≤ nI i then _ else _) = _
    rw [if_neg (by rw [w_4]; exact nI_ge hi (by decide)), u_R304_16 hS, bs, w_4, pk_mul, nI_add, u_a311 hS (by omega), bs, hh i hi]
    by_cases c : sv.testBit i = true
    · rw [if_pos c, if_pos c, if_neg (by decide), bd_]
      unfold fX9_plan_b59
      rw [bd_, nI_1]
    · rw [if_neg c, if_neg c, if_pos rfl]
      unfold fX9_plan_b59
      rw [bd_, nI_1]
  show fX9_plan_b32 (999995 + 1 + 1 + 1 + 1 + 1) 304 (nI p) x2 0 (nI 0) σ = _
  rw [st _ 0 (by decide), st _ 1 (by decide), st _ 2 (by decide), st _ 3 (by decide)]
  have k : ∀ sv, sv < 16 → (if sv.testBit 3 then (if sv.testBit 2 then (if sv.testBit 1 then (if sv.testBit 0 then (0 : Int32) ||| (1 <<< (nI 0 &&& 31)) else 0) ||| (1 <<< (nI 1 &&& 31)) else (if sv.testBit 0 then (0 : Int32) ||| (1 <<< (nI 0 &&& 31)) else 0)) ||| (1 <<< (nI 2 &&& 31)) else (if sv.testBit 1 then (if sv.testBit 0 then (0 : Int32) ||| (1 <<< (nI 0 &&& 31)) else 0) ||| (1 <<< (nI 1 &&& 31)) else (if sv.testBit 0 then (0 : Int32) ||| (1 <<< (nI 0 &&& 31)) else 0))) ||| (1 <<< (nI 3 &&& 31)) else (if sv.testBit 2 then (if sv.testBit 1 then (if sv.testBit 0 then (0 : Int32) ||| (1 <<< (nI 0 &&& 31)) else 0) ||| (1 <<< (nI 1 &&& 31)) else (if sv.testBit 0 then (0 : Int32) ||| (1 <<< (nI 0 &&& 31)) else 0)) ||| (1 <<< (nI 2 &&& 31)) else (if sv.testBit 1 then (if sv.testBit 0 then (0 : Int32) ||| (1 <<< (nI 0 &&& 31)) else 0) ||| (1 <<< (nI 1 &&& 31)) else (if sv.testBit 0 then (0 : Int32) ||| (1 <<< (nI 0 &&& 31)) else 0)))) = nI sv := by decide
  rw [k sv hsv]
  rfl
theorem op_plan (a b : Int32) : OpXI Rel (fX8_plan 0 a b) (fX9_plan 304 a b) := by
  intro σ h
  have hS := h.1
  obtain ⟨B, P, hB, hP, e1, e2, e3, e4⟩ := bk_of h.2.2.2.2.2.2.2.2.2
  have rf : fX9_plan_b17 304 σ = some (0, sI σ 304 0 1) := by
    unfold fX9_plan_b17 fX9_refuse
    rw [u_kT304 hS, bs, u_pI304 hS, bs, b2s]
  by_cases hx : ∃ p, p < P ∧ a = nI p
  · obtain ⟨p, hp, rfl⟩ := hx
    have at8 : ∀ f : Option Nat → Mem → Option (Option Int32 × Mem), ((fR σ 8 8 (some 0)).bind fun t1 => (kT σ 3 t1).bind fun k2 => b2 (fX3_at k2 (nI p) σ) f) = f (some (Pl B p)) σ := by
      intro f
      rw [u_R0_8 hS, bs, e1, v_kTB hS hB, bs, atP hS hB hP e2 hp, b2s]
    obtain ⟨g1, -, g2, -, g3, g4, -, -, sv, s1, s2, s3⟩ := e4 p hp
    by_cases c0 : b < 0
    · refine XI_no h (b := 0) ?_ ?_
      · unfold fX8_plan
        rw [at8, if_neg (by simp), if_neg (by rintro rfl; exact absurd c0 (by decide)), if_neg (by rintro rfl; exact absurd c0 (by decide)), if_neg (by rintro rfl; exact absurd c0 (by decide)), if_neg (by rintro rfl; exact absurd c0 (by decide)), if_neg (by rintro rfl; exact absurd c0 (by decide))]
      · unfold fX9_plan
        rw [u_kT304 hS, bs, isP1 hS hP e3 hp, b2s, if_neg (by decide), if_pos c0, rf]
    obtain ⟨w, hw, rfl⟩ := nI_of c0
    by_cases c5 : w ≤ 4
    · have pick (v : Int32) (hx : fX8_plan 0 (nI p) (nI w) σ = some (some v, σ)) (hm : ∀ τ, ST τ → (∀ c, 307 ≤ c → c ≤ 311 → gI τ c = gI σ c) → fX9_plan_b65 304 (nI p) (nI w) (nI sv) τ = some (v, τ)) : ∃ r σ1 b σ2, fX8_plan 0 (nI p) (nI w) σ = some (r, σ1) ∧ kd σ1 330 = 12 ∧ gL σ1 330 = 1 ∧ kd (outI r σ1) 304 = 9 ∧ fX9_plan 304 (nI p) (nI w) (outI r σ1) = some (b, σ2) ∧ kd σ2 304 = 9 ∧ gI σ2 304 0 = kof r ∧ kd σ2 330 = 12 ∧ gL σ2 330 = 1 ∧ (kof r = 0 → gJ σ2 330 0 = b.toInt64) ∧ Rel σ2 := by
        refine XI_yes h hx ?_
        have hT := q_sJ hS 330 0 v.toInt64
        unfold fX9_plan
        rw [u_kT304 hT, bs, isP1 hT hP (show gI (sJ σ 330 0 v.toInt64) 304 22 = nI P from e3) hp, b2s, if_neg (by decide), if_neg c0, w_4, if_pos (nI_le c5 (by decide)), u_pI304 hT, bs, pbits (sv := sv) (q_sI hT _ _ _) (by omega) (fun i hi => ((gI_sI2 (by omega)).trans (s3 i hi).1)) s1]
        exact hm _ (q_sI hT _ _ _) (fun c h1 h2 => gI_sI_n (by omega))
      have c6 : w = 0 ∨ w = 1 ∨ w = 2 ∨ w = 3 ∨ w = 4 := by omega
      rcases c6 with rfl | rfl | rfl | rfl | rfl
      · refine pick (gI σ (Pl B p) 3) ?_ (fun τ h1 h2 => ?_)
        · unfold fX8_plan
          rw [at8, if_neg (by simp), if_pos (by decide), v_fIP hS hB (by omega)]; rfl
        · unfold fX9_plan_b65
          rw [if_pos (by decide), u_R304_12 h1, bs, u_a307 h1 (by omega), h2 307 (by decide) (by decide), ← g1]; rfl
      · refine pick (gI σ (Pl B p) 4) ?_ (fun τ h1 h2 => ?_)
        · unfold fX8_plan
          rw [at8, if_neg (by simp), if_neg (by decide), if_pos (by decide), v_fIP hS hB (by omega)]; rfl
        · unfold fX9_plan_b65
          rw [if_neg (by decide), if_pos (by decide), u_R304_13 h1, bs, u_a308 h1 (by omega), h2 308 (by decide) (by decide), ← g2]; rfl
      · refine pick (gI σ (Pl B p) 5) ?_ (fun τ h1 h2 => ?_)
        · unfold fX8_plan
          rw [at8, if_neg (by simp), if_neg (by decide), if_neg (by decide), if_pos (by decide), v_fIP hS hB (by omega)]; rfl
        · unfold fX9_plan_b65
          rw [if_neg (by decide), if_neg (by decide), if_pos (by decide), u_R304_14 h1, bs, u_a309 h1 (by omega), h2 309 (by decide) (by decide), ← g3]; rfl
      · refine pick (gI σ (Pl B p) 6) ?_ (fun τ h1 h2 => ?_)
        · unfold fX8_plan
          rw [at8, if_neg (by simp), if_neg (by decide), if_neg (by decide), if_neg (by decide), if_pos (by decide), v_fIP hS hB (by omega)]; rfl
        · unfold fX9_plan_b65
          rw [if_neg (by decide), if_neg (by decide), if_neg (by decide), if_pos (by decide), u_R304_15 h1, bs, u_a310 h1 (by omega), h2 310 (by decide) (by decide), ← g4]; rfl
      · refine pick (gI σ (Pl B p) 7) ?_ (fun τ h1 h2 => ?_)
        · unfold fX8_plan
          rw [at8, if_neg (by simp), if_neg (by decide), if_neg (by decide), if_neg (by decide), if_neg (by decide), if_pos (by decide), v_fIP hS hB (by omega)]; rfl
        · unfold fX9_plan_b65
          rw [if_neg (by decide), if_neg (by decide), if_neg (by decide), if_neg (by decide), s2]; rfl
    · have ne (k : Nat) (hk : k ≤ 4) : ¬ nI w = nI k := by
        rw [nI_eq hw (by omega)]; omega
      refine XI_no h (b := 0) ?_ ?_
      · unfold fX8_plan
        rw [at8, if_neg (by simp), if_neg (show ¬ nI w = (0 : Int32) from ne 0 (by decide)), if_neg (show ¬ nI w = (1 : Int32) from ne 1 (by decide)), if_neg (show ¬ nI w = (2 : Int32) from ne 2 (by decide)), if_neg (show ¬ nI w = (3 : Int32) from ne 3 (by decide)), if_neg (show ¬ nI w = (4 : Int32) from ne 4 (by decide))]
      · unfold fX9_plan
        rw [u_kT304 hS, bs, isP1 hS hP e3 hp, b2s, if_neg (by decide), if_neg c0, w_4, if_neg (nI_ge (by omega) hw), rf]
  · refine XI_no h (b := 0) ?_ ?_
    · unfold fX8_plan
      rw [u_R0_8 hS, bs, e1, v_kTB hS hB, bs, atN hS hB hP e2 hx, b2s, if_pos rfl]
    · unfold fX9_plan
      rw [u_kT304 hS, bs, isP0 hS hP e3 hx, b2s, if_pos rfl, rf]
/-! names -/
theorem enc_app (b z : Nat) (l : List Nat) (x : Nat) : ∀ a, enc b z (l ++ [x]) a = enc b z l a * b + (x - z) := by
  induction l with
  | nil => intro a; rfl
  | cons y l ih => intro a; exact ih _
theorem enc27_lt (r : List Nat) (h : ∀ x ∈ r, 97 ≤ x ∧ x ≤ 122) : enc 27 96 r.reverse 0 < 27 ^ r.length := by
  induction r with
  | nil => decide
  | cons x r ih =>
    rw [List.reverse_cons, enc_app, List.length_cons, Nat.pow_succ]
    have := ih (fun y hy => h y (List.mem_cons_of_mem _ hy))
    have := h x (List.mem_cons_self ..)
    omega
theorem p27 {n : Nat} (h : n ≤ 8) : 27 ^ n ≤ 282429536481 := by
  have : ∀ n, n < 9 → 27 ^ n ≤ 282429536481 := by decide
  exact this n (by omega)
theorem nm1 (x1 : Int32) (r : List Nat) : (∀ x ∈ r, 97 ≤ x ∧ x ≤ 122) → r.length ≤ 8 → ∀ n c σ, ST σ → r.length < n → gI σ 304 26 = nI c → ∃ τ, fX9_name_b27 n 304 x1 (lN (enc 27 96 r.reverse 0)) σ = fX9_name_b52 304 x1 τ ∧ Fr (fun c k => c = 304 ∧ k = 26) σ τ ∧ gI τ 304 26 = nI (c + r.length) := by
  induction r with
  | nil =>
    intro _ _ n c σ hS hn e
    cases n with
    | zero => cases hn
    | succ n => exact ⟨σ, rfl, Fr.refl hS, e⟩
  | cons x r ih =>
    intro h hl n c σ hS hn e
    cases n with
    | zero => cases hn
    | succ n =>
      have hx := h x (List.mem_cons_self ..)
      have hr := fun y hy => h y (List.mem_cons_of_mem x hy)
      have hlt := enc27_lt r hr
      rw [List.length_cons] at hl hn ⊢
      have := p27 (n := r.length) (by omega)
      have hS1 := q_sI hS 304 26 (nI (c + 1))
      obtain ⟨τ, t1, t2, t3⟩ := ih hr (by omega) n (c + 1) _ hS1 (by omega) gI_sI1
      refine ⟨τ, ?_, Fr.tr (Fr.cI (Fr.refl hS) (by simp)) t2, by rw [t3]; congr 1; omega⟩
      rw [List.reverse_cons, enc_app]
      show (if lN _ ≤ 0 then _ else _) = _
      rw [if_neg (by rw [show (0 : Int64) = lN 0 from rfl, pk_lLE (by omega) (by omega)]; omega), u_fI304 hS, bs, e, u_pI304 hS, bs, bd_, nI_1, show (27 : Int64) = lN 27 from rfl, pk_lDiv (by omega) (by decide) (by decide), show (enc 27 96 r.reverse 0 * 27 + (x - 96)) / 27 = enc 27 96 r.reverse 0 by omega]
      exact t1
theorem nm2 (r : List Nat) : (∀ x ∈ r, 97 ≤ x ∧ x ≤ 122) → r.length ≤ 8 → ∀ n σ, ST σ → r.length < n → ∃ τ, fX9_name_b67 n 304 (lN (enc 27 96 r.reverse 0)) (nI r.length + -1) σ = fX9_name_b100 304 τ ∧ Fr (fun c _ => c = 317) σ τ ∧ (∀ i, i < r.length → gI τ 317 i = nI (r.reverse.getD i 0)) ∧ ∀ i, r.length ≤ i → gI τ 317 i = gI σ 317 i := by
  induction r with
  | nil =>
    intro _ _ n σ hS hn
    cases n with
    | zero => cases hn
    | succ n => exact ⟨σ, rfl, Fr.refl hS, fun i hi => absurd hi (Nat.not_lt_zero i), fun _ _ => rfl⟩
  | cons x r ih =>
    intro h hl n σ hS hn
    cases n with
    | zero => cases hn
    | succ n =>
      have hx := h x (List.mem_cons_self ..)
      have hr := fun y hy => h y (List.mem_cons_of_mem x hy)
      have hlt := enc27_lt r hr
      rw [List.length_cons] at hl hn ⊢
      have := p27 (n := r.length) (by omega)
      have hS1 := q_sI hS 317 r.length (nI x)
      obtain ⟨τ, t1, t2, t3, t4⟩ := ih hr (by omega) n _ hS1 (by omega)
      refine ⟨τ, ?_, Fr.tr (Fr.cI (Fr.refl hS) (by simp)) t2, fun i hi => ?_, fun i hi => ?_⟩
      · rw [List.reverse_cons, enc_app, pk_m1]
        show (if nI r.length < 0 then _ else _) = _
        rw [if_neg (nI_pos (by omega)), u_R304_25 hS, bs, show (27 : Int64) = lN 27 from rfl, pk_lRem (by omega) (by decide) (by decide), lN_i, w_96, nI_add, show (enc 27 96 r.reverse 0 * 27 + (x - 96)) % 27 + 96 = x by omega, u_w317 hS (by omega), bs, bd_, pk_lDiv (by omega) (by decide) (by decide), bd_, show (enc 27 96 r.reverse 0 * 27 + (x - 96)) / 27 = enc 27 96 r.reverse 0 by omega]
        exact t1
      · rw [List.reverse_cons]
        by_cases c : i < r.length
        · rw [t3 i c]
          simp [List.getD, List.getElem?_append, c]
        · have c2 : i = r.length := by omega
          subst c2
          rw [t4 _ (Nat.le_refl _), gI_sI1]
          simp [List.getD]
      · rw [t4 i (by omega), gI_sI2 (by omega)]
theorem op_name (a : Int32) : OpI Rel (fX8_name 0 a) (fX9_name 304 a) := by
  intro σ h
  have hS := h.1
  have hT := Rel_th h 0
  have hS1 := q_sI hS 304 0 0
  obtain ⟨B, P, hB, hP, e1, e2, e3, e4⟩ := bk_of h.2.2.2.2.2.2.2.2.2
  by_cases hx : ∃ p, p < P ∧ a = nI p
  · obtain ⟨p, hp, rfl⟩ := hx
    obtain ⟨-, -, -, -, -, -, -, ⟨l, ⟨l1, l2, l3⟩, n1, n2, n3⟩, -⟩ := e4 p hp
    have hS2 := q_sI (q_sJ hS 0 10 (gJ σ (Pl B p) 1)) 0 11 (nI l.length)
    have hS3 := q_sI hS2 304 0 0
    have hS4 := q_sI hS3 304 26 0
    have lr : ∀ x ∈ l.reverse, 97 ≤ x ∧ x ≤ 122 := fun x hx => l3 x (List.mem_reverse.mp hx)
    obtain ⟨τ, t1, t2, t3⟩ := nm1 (nI p) l.reverse lr (by simpa using l2) FU 0 _ hS4 (by simp; unfold FU; omega) (gI_sI1 (v := 0))
    rw [List.reverse_reverse, ← n3] at t1
    rw [List.length_reverse, Nat.zero_add] at t3
    have vn : gJ τ 306 p = gJ σ 306 p := (t2.2 306 p (by simp)).2.1
    obtain ⟨υ, u1, u2, u3, u4⟩ := nm2 l.reverse lr (by simpa using l2) FU τ t2.1 (by simp; unfold FU; omega)
    rw [List.reverse_reverse, ← n3, List.length_reverse] at u1
    rw [List.reverse_reverse, List.length_reverse] at u3
    refine ⟨nI l.length, sI (sJ σ 0 10 (gJ σ (Pl B p) 1)) 0 11 (nI l.length), υ, ?_, k9 hS, ?_, ?_⟩
    · unfold fX8_name
      rw [u_R0_8 hS, bs, e1, v_kTB hS hB, bs, atP hS hB hP e2 hp, b2s, if_neg (by simp), v_fJP hS hB (by omega), bs, u_pJ0 hS, bs, v_fIP (q_sJ hS _ _ _) hB (by omega), bs, u_pI0 (q_sJ hS _ _ _), bs, gI_sJ, show gI σ (Pl B p) 2 = nI l.length from n1, u_fI0 hS2, bs, gI_sI1]
    · unfold fX9_name
      rw [u_pI304 hS2, bs, u_kT304 hS3, bs, isP1 hS3 hP (by simp [rdI, rdIJ]; exact e3) hp, b2s, if_neg (by decide), u_pI304 hS3, bs, u_R304_11 hS4, bs, u_a306 hS4 (by omega), bs]
      show fX9_name_b27 FU 304 (nI p) (gJ σ 306 p) _ = _
      rw [t1]
      unfold fX9_name_b52
      rw [u_R304_11 t2.1, bs, u_a306 t2.1 (by omega), bs, vn, u_fI304 t2.1, bs, t3, bd_, Int32.sub_eq_add_neg, u1]
      unfold fX9_name_b100
      rw [u_fI304 u2.1, bs, (u2.2 304 26 (by simp)).1, t3]
    · obtain ⟨h0, h1, h2, h3, h4, h5, h6, h7, h8, h9⟩ := h
      have F : Fr (fun c k => (c = 0 ∧ (k = 10 ∨ k = 11)) ∨ (c = 304 ∧ (k = 0 ∨ k = 26)) ∨ c = 317) σ υ := Fr.tr (Fr.tr (Fr.cI (Fr.cI (Fr.cI (Fr.cJ (Fr.refl hS) (by simp)) (by simp)) (by simp)) (by simp)) (Fr.mono t2 (by intro c k h; omega))) (Fr.mono u2 (by intro c k h; omega))
      refine ⟨u2.1, c_tape F (by simp) (by simp) (by simp) (by simp) h1, c_flt F (by simp) (by simp) h2, c_use F (by simp) (by simp) h3, c_chg F (by simp) (by simp) h4, c_span F (by simp) (by simp) (by simp) (by simp) h5, c_row F (by simp) (by simp) (by simp) (by simp) h6, c_grp F (by simp) (by simp) h7, Or.inr ⟨l, ⟨l1, l2, l3⟩, ?_, ?_, ?_, u3⟩, R_book_Fr F (by unfold inBk; intro c hc k; omega) (by simp) (by simp) (by simp) h9⟩
      · rw [(u2.2 0 11 (by simp)).1, (t2.2 0 11 (by simp)).1]
        simp [rdI]
      · rw [(u2.2 304 26 (by simp)).1, t3]
      · rw [(u2.2 0 10 (by simp)).2.1, (t2.2 0 10 (by simp)).2.1]
        simp [rdJI, rdJ]
        exact n2
  · refine ⟨-1, σ, sI σ 304 0 0, ?_, k9 hS, ?_, hT⟩
    · unfold fX8_name
      rw [u_R0_8 hS, bs, e1, v_kTB hS hB, bs, atN hS hB hP e2 hx, b2s, if_pos rfl]
    · unfold fX9_name
      rw [u_pI304 hS, bs, u_kT304 hS1, bs, isP0 hS1 hP ((gI_sI2 (by decide)).trans e3) hx, b2s, if_pos rfl]
/-! octet -/
theorem shr63 {a d : Nat} {D : Int64} (hD : (D.toBitVec.smod 64).toNat = d) (h : a < 2 ^ 63) : lN a >>> D = lN (a / 2 ^ d) := by
  have hd : a / 2 ^ d ≤ a := Nat.div_le_self _ _
  apply Int64.toInt_inj.mp
  have e : (lN a >>> D).toInt = (lN a).toInt >>> d := by
    rw [← hD]
    exact BitVec.toInt_sshiftRight ..
  rw [e, Int.shiftRight_eq_div_pow, pk_lT (by omega), pk_lT (by omega)]
  rfl
theorem sh63 : ∀ k, k < 64 → (((nI k).toInt64 &&& 63).toBitVec.smod 64).toNat = k := by decide +kernel
theorem enc_lt (l : List Nat) (h : ∀ x ∈ l, x ≤ 122) : ∀ a, enc 256 0 l a < (a + 1) * 256 ^ l.length := by
  induction l with
  | nil => intro a; simp [enc]
  | cons x l ih =>
    intro a
    have h1 := ih (fun y hy => h y (List.mem_cons_of_mem _ hy)) (a * 256 + (x - 0))
    have h2 := h x (List.mem_cons_self ..)
    show enc 256 0 l (a * 256 + (x - 0)) < _
    refine Nat.lt_of_lt_of_le h1 ?_
    rw [List.length_cons, Nat.pow_succ, Nat.mul_comm (256 ^ l.length) 256, ← Nat.mul_assoc]
    exact Nat.mul_le_mul_right _ (by omega)
theorem enc_get (r : List Nat) : (∀ x ∈ r, x ≤ 122) → ∀ i, i < r.length → enc 256 0 r.reverse 0 / 2 ^ (8 * i) % 256 = r.getD i 0 := by
  induction r with
  | nil => intro _ i hi; cases hi
  | cons x r ih =>
    intro h i hi
    have hx := h x (List.mem_cons_self ..)
    rw [List.reverse_cons, enc_app]
    cases i with
    | zero => simp; omega
    | succ i =>
      rw [show 8 * (i + 1) = 8 + 8 * i by omega, Nat.pow_add, ← Nat.div_div_eq_div_mul, show (enc 256 0 r.reverse 0 * 256 + (x - 0)) / 2 ^ 8 = enc 256 0 r.reverse 0 by omega, ih (fun y hy => h y (List.mem_cons_of_mem _ hy)) i (by simpa using hi)]
      simp
theorem op_octet (a : Int32) : OpXI Rel (fX8_octet 0 a) (fX9_octet 304 a) := by
  intro σ h
  have hS := h.1
  have ho := h.2.2.2.2.2.2.2.2.1
  have rf : fX9_octet_b12 304 σ = some (0, sI σ 304 0 1) := by
    unfold fX9_octet_b12 fX9_refuse
    rw [u_kT304 hS, bs, u_pI304 hS, bs, b2s]
  by_cases c0 : a < 0
  · refine XI_no h (b := 0) ?_ ?_
    · unfold fX8_octet; rw [if_pos c0]; rfl
    · unfold fX9_octet; rw [if_pos c0, rf]
  obtain ⟨k, hk, rfl⟩ := nI_of c0
  rcases ho with ⟨q1, q2⟩ | ⟨l, ⟨l1, l2, l3⟩, q1, q2, q3, q4⟩
  · refine XI_no h (b := 0) ?_ ?_
    · unfold fX8_octet; rw [if_neg c0, u_fI0 hS, bs, q1, if_neg c0]; rfl
    · unfold fX9_octet; rw [if_neg c0, u_fI304 hS, bs, q2, if_neg c0, rf]
  · by_cases c1 : k < l.length
    · have hT := q_sJ hS 330 0 (nI (l.getD k 0)).toInt64
      refine XI_yes h (v := nI (l.getD k 0)) ?_ ?_
      · unfold fX8_octet
        rw [if_neg c0, u_fI0 hS, bs, q1, if_pos (nI_lt c1 (by omega)), u_fJ0 hS, bs, q3, bs, w_1, w_8, pk_sub (by omega), pk_sub (by omega), pk_mul]
        have hlt := enc_lt l (fun x hx => (l3 x hx).2) 0
        have hlt2 : enc 256 0 l 0 < 2 ^ 63 := by
          cases l with
          | nil => exact absurd l1 (by decide)
          | cons x l =>
            have h1 := enc_lt l (fun y hy => (l3 y (List.mem_cons_of_mem _ hy)).2) (0 * 256 + (x - 0))
            have h2 := l3 x (List.mem_cons_self ..)
            have h3 : 256 ^ l.length ≤ 256 ^ 7 := Nat.pow_le_pow_right (by decide) (by simpa using l2)
            have h4 : enc 256 0 (x :: l) 0 = enc 256 0 l (0 * 256 + (x - 0)) := rfl
            rw [h4]
            refine Nat.lt_of_lt_of_le h1 (Nat.le_trans (Nat.mul_le_mul (show 0 * 256 + (x - 0) + 1 ≤ 123 by omega) h3) (by decide))
        rw [shr63 (sh63 _ (by omega)) hlt2, lN_i, pk_and _ 8 (by decide)]
        have e := enc_get l.reverse (fun x hx => (l3 x (List.mem_reverse.mp hx)).2) (l.length - 1 - k) (by simp; omega)
        rw [List.reverse_reverse] at e
        have e2 : l.reverse.getD (l.length - 1 - k) 0 = l.getD k 0 := by
          have : l.length - 1 - k < l.length := by omega
          simp [List.getD, List.getElem?_reverse this, show l.length - 1 - (l.length - 1 - k) = k by omega]
        have e3 : (nI (enc 256 0 l 0 / 2 ^ (8 * (l.length - 1 - k)))).toBitVec.toNat % 2 ^ 8 = l.getD k 0 := by
          show (BitVec.ofNat 32 _).toNat % 2 ^ 8 = _
          rw [BitVec.toNat_ofNat, Nat.mod_mod_of_dvd _ (by decide), ← e2, ← e]
        rw [e3]
      · unfold fX9_octet
        rw [if_neg c0, u_fI304 hT, bs, gI_sJ, q2, if_pos (nI_lt c1 (by omega)), u_pI304 hT, bs, u_R304_25 (q_sI hT _ _ _), bs, u_a317 (q_sI hT _ _ _) (by omega), bs, gI_sI2 (by omega), gI_sJ, q4 k c1]
    · refine XI_no h (b := 0) ?_ ?_
      · unfold fX8_octet; rw [if_neg c0, u_fI0 hS, bs, q1, if_neg (nI_nlt (by omega) hk)]; rfl
      · unfold fX9_octet; rw [if_neg c0, u_fI304 hS, bs, q2, if_neg (nI_nlt (by omega) hk), rf]
