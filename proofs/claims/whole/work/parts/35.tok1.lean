/-! tokens, in numbers -/
def isL (c : Nat) : Bool := decide (97 ≤ c) && decide (c ≤ 122)
def isD (c : Nat) : Bool := decide (48 ≤ c) && decide (c ≤ 57)
def isBl (c : Nat) : Bool := decide (c = 32) || decide (c = 10)
def skb (T : Nat → Nat) (L : Nat) : Nat → Nat → Nat
  | 0, p => p
  | n + 1, p => if p < L ∧ isBl (T p) = true then skb T L n (p + 1) else p
def ren (T : Nat → Nat) (L : Nat) : Nat → Nat → Nat
  | 0, p => p
  | n + 1, p => if p < L ∧ (isL (T p) || isD (T p)) = true then ren T L n (p + 1) else p
def seg (T : Nat → Nat) (p : Nat) : Nat → List Nat
  | 0 => []
  | n + 1 => seg T p n ++ [T (p + n)]
theorem seg_len (T : Nat → Nat) (p : Nat) : ∀ n, (seg T p n).length = n := by
  intro n
  induction n with
  | zero => rfl
  | succ n ih => simp [seg, ih]
theorem seg_mem {T : Nat → Nat} {p x : Nat} : ∀ n, x ∈ seg T p n ↔ ∃ i, i < n ∧ x = T (p + i) := by
  intro n
  induction n with
  | zero => simp [seg]
  | succ n ih =>
    simp only [seg, List.mem_append, List.mem_singleton, ih]
    constructor
    · rintro (⟨i, i1, i2⟩ | h)
      · exact ⟨i, by omega, i2⟩
      · exact ⟨n, by omega, h⟩
    · rintro ⟨i, i1, i2⟩
      by_cases e : i = n
      · subst e; exact Or.inr i2
      · exact Or.inl ⟨i, by omega, i2⟩
theorem skb_f {T : Nat → Nat} {L : Nat} : ∀ n p, p ≤ L → L ≤ p + n → p ≤ skb T L n p ∧ skb T L n p ≤ L ∧ (∀ i, p ≤ i → i < skb T L n p → isBl (T i) = true) ∧ (skb T L n p < L → isBl (T (skb T L n p)) = false) := by
  intro n
  induction n with
  | zero =>
    intro p h1 h2
    exact ⟨Nat.le_refl _, h1, fun i i1 i2 => absurd i2 (by show ¬ i < p; omega), fun h => absurd h (by show ¬ p < L; omega)⟩
  | succ n ih =>
    intro p h1 h2
    have e : skb T L (n + 1) p = if p < L ∧ isBl (T p) = true then skb T L n (p + 1) else p := rfl
    rw [e]
    by_cases c : p < L ∧ isBl (T p) = true
    · rw [if_pos c]
      obtain ⟨a1, a2, a3, a4⟩ := ih (p + 1) (by omega) (by omega)
      refine ⟨by omega, a2, fun i i1 i2 => ?_, a4⟩
      by_cases ei : i = p
      · rw [ei]; exact c.2
      · exact a3 i (by omega) i2
    · rw [if_neg c]
      refine ⟨Nat.le_refl _, h1, fun i i1 i2 => by omega, fun h => ?_⟩
      cases e2 : isBl (T p) with
      | true => exact absurd ⟨h, e2⟩ c
      | false => rfl
theorem ren_f {T : Nat → Nat} {L : Nat} : ∀ n p, p ≤ L → L ≤ p + n → p ≤ ren T L n p ∧ ren T L n p ≤ L ∧ (∀ i, p ≤ i → i < ren T L n p → (isL (T i) || isD (T i)) = true) ∧ (ren T L n p < L → (isL (T (ren T L n p)) || isD (T (ren T L n p))) = false) := by
  intro n
  induction n with
  | zero =>
    intro p h1 h2
    exact ⟨Nat.le_refl _, h1, fun i i1 i2 => absurd i2 (by show ¬ i < p; omega), fun h => absurd h (by show ¬ p < L; omega)⟩
  | succ n ih =>
    intro p h1 h2
    have e : ren T L (n + 1) p = if p < L ∧ (isL (T p) || isD (T p)) = true then ren T L n (p + 1) else p := rfl
    rw [e]
    by_cases c : p < L ∧ (isL (T p) || isD (T p)) = true
    · rw [if_pos c]
      obtain ⟨a1, a2, a3, a4⟩ := ih (p + 1) (by omega) (by omega)
      refine ⟨by omega, a2, fun i i1 i2 => ?_, a4⟩
      by_cases ei : i = p
      · rw [ei]; exact c.2
      · exact a3 i (by omega) i2
    · rw [if_neg c]
      refine ⟨Nat.le_refl _, h1, fun i i1 i2 => by omega, fun h => ?_⟩
      cases e2 : (isL (T p) || isD (T p)) with
      | true => exact absurd ⟨h, e2⟩ c
      | false => rfl
/-- the words: 0 plan, 1 fee, 2 term, 3 from, 4 until, 5 for, 6 free, 7 to, 8 at, 9 rest; 10 the sign, 11 the end, 12 none -/
def wds : List (List Nat) := [[112, 108, 97, 110], [102, 101, 101], [116, 101, 114, 109], [102, 114, 111, 109], [117, 110, 116, 105, 108], [102, 111, 114], [102, 114, 101, 101], [116, 111], [97, 116], [114, 101, 115, 116]]
def wix (l : List Nat) : Nat → List (List Nat) → Nat
  | _, [] => 12
  | k, x :: r => if l = x then k else wix l (k + 1) r
def wd (l : List Nat) : Nat := wix l 0 wds
/-- a token: its word, its kind (1 a name, 2 a number, 0 others), its place, where the next begins, its number, its letters -/
abbrev TK : Type := Nat × Nat × Nat × Nat × Nat × List Nat
def isNb (l : List Nat) : Bool := decide (1 ≤ l.length) && decide (l.length ≤ 8) && l.all isL
def isMb (l : List Nat) : Bool := decide (1 ≤ l.length) && decide (l.length ≤ 6) && l.all isD
def tokA (T : Nat → Nat) (L p : Nat) : TK :=
  if 800 < L ∧ 800 ≤ p then (12, 0, 800, 800, 0, [])
  else if L ≤ p then (11, 0, p, p, 0, [])
  else if T p = 59 then (10, 0, p, p + 1, 0, [])
  else if isNb (seg T p (ren T L 840 p - p)) = true then (wd (seg T p (ren T L 840 p - p)), 1, p, ren T L 840 p, 0, seg T p (ren T L 840 p - p))
  else if isMb (seg T p (ren T L 840 p - p)) = true then (12, 2, p, ren T L 840 p, enc 10 48 (seg T p (ren T L 840 p - p)) 0, [])
  else (12, 0, p, ren T L 840 p, 0, [])
def tok (T : Nat → Nat) (L pos : Nat) : TK := tokA T L (skb T L 840 pos)
theorem isNb_N {l : List Nat} (h : isNb l = true) : isN l := by
  unfold isNb at h
  simp only [Bool.and_eq_true, decide_eq_true_eq, List.all_eq_true] at h
  refine ⟨h.1.1, h.1.2, fun x hx => ?_⟩
  have := h.2 x hx
  unfold isL at this
  simpa using this
theorem tok_f {T : Nat → Nat} {L pos : Nat} (hL : L ≤ 840) (hp : pos ≤ L) : (tok T L pos).2.2.1 ≤ 800 ∧ (tok T L pos).2.2.2.1 ≤ 840 ∧ (((tok T L pos).1 ≠ 12 ∧ (tok T L pos).1 ≠ 11) ∨ (tok T L pos).2.1 ≠ 0 → pos ≤ (tok T L pos).2.2.1 ∧ (tok T L pos).2.2.1 < 800 ∧ (tok T L pos).2.2.1 < (tok T L pos).2.2.2.1 ∧ (tok T L pos).2.2.2.1 ≤ L) := by
  obtain ⟨s1, s2, -, -⟩ := skb_f (T := T) (L := L) 840 pos hp (by omega)
  unfold tok tokA
  by_cases c1 : 800 < L ∧ 800 ≤ skb T L 840 pos
  · rw [if_pos c1]
    refine ⟨Nat.le_refl _, by decide, ?_⟩
    rintro (⟨h, -⟩ | h) <;> exact absurd rfl h
  · rw [if_neg c1]
    by_cases c2 : L ≤ skb T L 840 pos
    · rw [if_pos c2]
      refine ⟨by show skb T L 840 pos ≤ 800; omega, by show skb T L 840 pos ≤ 840; omega, ?_⟩
      rintro (⟨-, h⟩ | h) <;> exact absurd rfl h
    · rw [if_neg c2]
      by_cases c3 : T (skb T L 840 pos) = 59
      · rw [if_pos c3]
        exact ⟨by show skb T L 840 pos ≤ 800; omega, by show skb T L 840 pos + 1 ≤ 840; omega, fun _ => ⟨s1, by show skb T L 840 pos < 800; omega, Nat.lt_succ_self _, by show skb T L 840 pos + 1 ≤ L; omega⟩⟩
      · rw [if_neg c3]
        obtain ⟨r1, r2, -, -⟩ := ren_f (T := T) (L := L) 840 (skb T L 840 pos) (by omega) (by omega)
        have sl := seg_len T (skb T L 840 pos) (ren T L 840 (skb T L 840 pos) - skb T L 840 pos)
        by_cases c4 : isNb (seg T (skb T L 840 pos) (ren T L 840 (skb T L 840 pos) - skb T L 840 pos)) = true
        · have := (isNb_N c4).1
          rw [if_pos c4]
          exact ⟨by show skb T L 840 pos ≤ 800; omega, by show ren T L 840 (skb T L 840 pos) ≤ 840; omega, fun _ => ⟨s1, by show skb T L 840 pos < 800; omega, by show skb T L 840 pos < ren T L 840 (skb T L 840 pos); omega, r2⟩⟩
        · rw [if_neg c4]
          by_cases c5 : isMb (seg T (skb T L 840 pos) (ren T L 840 (skb T L 840 pos) - skb T L 840 pos)) = true
          · have h1 : 1 ≤ (seg T (skb T L 840 pos) (ren T L 840 (skb T L 840 pos) - skb T L 840 pos)).length := by
              unfold isMb at c5
              simp only [Bool.and_eq_true, decide_eq_true_eq] at c5
              exact c5.1.1
            rw [if_pos c5]
            exact ⟨by show skb T L 840 pos ≤ 800; omega, by show ren T L 840 (skb T L 840 pos) ≤ 840; omega, fun _ => ⟨s1, by show skb T L 840 pos < 800; omega, by show skb T L 840 pos < ren T L 840 (skb T L 840 pos); omega, r2⟩⟩
          · rw [if_neg c5]
            refine ⟨by show skb T L 840 pos ≤ 800; omega, by show ren T L 840 (skb T L 840 pos) ≤ 840; omega, ?_⟩
            rintro (⟨h, -⟩ | h) <;> exact absurd rfl h
/-! letters in one number: which words are alike -/
theorem enc_inj (b z : Nat) (r : List Nat) : ∀ r' : List Nat, (∀ x ∈ r, z + 1 ≤ x ∧ x < z + b) → (∀ x ∈ r', z + 1 ≤ x ∧ x < z + b) → enc b z r.reverse 0 = enc b z r'.reverse 0 → r = r' := by
  induction r with
  | nil =>
    intro r' _ h' e
    cases r' with
    | nil => rfl
    | cons y r' =>
      have hy := h' y (List.mem_cons_self ..)
      rw [List.reverse_cons, enc_app] at e
      have e : 0 = _ := e
      omega
  | cons x r ih =>
    intro r' h h' e
    have hx := h x (List.mem_cons_self ..)
    cases r' with
    | nil =>
      rw [List.reverse_cons, enc_app] at e
      have e : _ = 0 := e
      omega
    | cons y r' =>
      have hy := h' y (List.mem_cons_self ..)
      rw [List.reverse_cons, enc_app, List.reverse_cons, enc_app] at e
      have e1 := congrArg (· % b) e
      have e2 := congrArg (· / b) e
      simp only [Nat.mul_add_mod'] at e1
      rw [Nat.mod_eq_of_lt (show x - z < b by omega), Nat.mod_eq_of_lt (show y - z < b by omega)] at e1
      have hb : 0 < b := by omega
      simp only [Nat.mul_comm _ b, Nat.mul_add_div hb, Nat.div_eq_of_lt (show x - z < b by omega), Nat.div_eq_of_lt (show y - z < b by omega), Nat.add_zero] at e2
      rw [ih r' (fun u hu => h u (List.mem_cons_of_mem _ hu)) (fun u hu => h' u (List.mem_cons_of_mem _ hu)) e2, show x = y by omega]
theorem enc_i {b z : Nat} {l l' : List Nat} (h : ∀ x ∈ l, z + 1 ≤ x ∧ x < z + b) (h' : ∀ x ∈ l', z + 1 ≤ x ∧ x < z + b) (e : enc b z l 0 = enc b z l' 0) : l = l' := by
  have := enc_inj b z l.reverse l'.reverse (fun x hx => h x (List.mem_reverse.mp hx)) (fun x hx => h' x (List.mem_reverse.mp hx)) (by rw [List.reverse_reverse, List.reverse_reverse]; exact e)
  have := congrArg List.reverse this
  rwa [List.reverse_reverse, List.reverse_reverse] at this
theorem enc_8 {l : List Nat} (h : isN l) : enc 256 0 l 0 < 2 ^ 63 := by
  obtain ⟨l1, l2, l3⟩ := h
  cases l with
  | nil => exact absurd l1 (by decide)
  | cons x l =>
    have h1 := enc_lt l (fun y hy => (l3 y (List.mem_cons_of_mem _ hy)).2) (0 * 256 + (x - 0))
    have h2 := l3 x (List.mem_cons_self ..)
    have h3 : 256 ^ l.length ≤ 256 ^ 7 := Nat.pow_le_pow_right (by decide) (by simpa using l2)
    have h4 : enc 256 0 (x :: l) 0 = enc 256 0 l (0 * 256 + (x - 0)) := rfl
    rw [h4]
    exact Nat.lt_of_lt_of_le h1 (Nat.le_trans (Nat.mul_le_mul (show 0 * 256 + (x - 0) + 1 ≤ 123 by omega) h3) (by decide))
theorem enc_27 {l : List Nat} (h : isN l) : enc 27 96 l 0 < 2 ^ 63 := by
  have h1 := enc27_lt l.reverse (fun x hx => h.2.2 x (List.mem_reverse.mp hx))
  rw [List.reverse_reverse, List.length_reverse] at h1
  have h2 := p27 h.2.1
  omega
theorem e8_i {l l' : List Nat} (h : isN l) (h' : isN l') : lN (enc 256 0 l 0) = lN (enc 256 0 l' 0) ↔ l = l' := by
  rw [pk_lEQ (enc_8 h) (enc_8 h')]
  constructor
  · exact fun e => enc_i (fun x hx => by have := h.2.2 x hx; omega) (fun x hx => by have := h'.2.2 x hx; omega) e
  · rintro rfl; rfl
theorem e27_i {l l' : List Nat} (h : isN l) (h' : isN l') : lN (enc 27 96 l 0) = lN (enc 27 96 l' 0) ↔ l = l' := by
  rw [pk_lEQ (enc_27 h) (enc_27 h')]
  constructor
  · exact fun e => enc_i (fun x hx => by have := h.2.2 x hx; omega) (fun x hx => by have := h'.2.2 x hx; omega) e
  · rintro rfl; rfl
