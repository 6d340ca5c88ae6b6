/-! reading plans, in numbers -/
abbrev NL : Type := List Nat × LD
abbrev PS : Type := Nat × (Nat → NL) × Nat
abbrev FR : Type := Sum (Nat × Nat) PS
def mayF (A w : Nat) : Bool :=
  if A = 0 then w == 1 else if A = 1 then w == 2 || w == 3 || w == 5 || w == 10 else if A = 2 then w == 3 || w == 5 || w == 10
  else if A = 3 then w == 4 else if A = 4 then w == 5 || w == 10 else if A = 5 then w == 6 || w == 7 || w == 9 else if A = 6 then w == 7 || w == 9
  else if A = 7 then w == 8 else if A = 8 then w == 7 || w == 9 else if A = 9 then w == 5 || w == 10 else if A = 10 then w == 0 || w == 11 else w == 0
def cP (st : PS) : LD := (st.2.1 st.1).2
def cT (st : PS) : PD := (cP st).2.2.2.2.2 st.2.2
def lo_ (w : Nat) (st : PS) : Nat := if w = 2 then 1 else if w = 4 then (cP st).2.2.1 else if w = 7 then (if (cT st).2.1 = 0 then 0 else (cT st).2.2.1 ((cT st).2.1 - 1)) + 1 else 0
def hi_ (w : Nat) : Nat := if w = 1 then 999999 else if w = 2 then 24 else if w = 3 then 23 else if w = 4 then 23 else if w = 5 then 3 else if w = 6 then 20000 else if w = 7 then 20000 else 9999
def uP (st : PS) (f : LD → LD) : PS := (st.1, (fun i => if i = st.1 then ((st.2.1 i).1, f (st.2.1 i).2) else st.2.1 i), st.2.2)
def uT (st : PS) (f : PD → PD) : PS := uP st (fun l => (l.1, l.2.1, l.2.2.1, l.2.2.2.1, l.2.2.2.2.1, (fun s => if s = st.2.2 then f (l.2.2.2.2.2 s) else l.2.2.2.2.2 s)))
def put_ (w v : Nat) (st : PS) : PS :=
  if w = 1 then uP st (fun l => (v, l.2))
  else if w = 2 then uP st (fun l => (l.1, v, l.2.2))
  else if w = 3 then uP st (fun l => (l.1, l.2.1, v, l.2.2.2))
  else if w = 4 then uP st (fun l => (l.1, l.2.1, l.2.2.1, v, l.2.2.2.2))
  else if w = 5 then (let z := uP st (fun l => (l.1, l.2.1, l.2.2.1, l.2.2.2.1, l.2.2.2.2.1 ||| 2 ^ v, (fun s => if s = v then (0, 0, (l.2.2.2.2.2 s).2.2.1, (l.2.2.2.2.2 s).2.2.2.1, 0) else l.2.2.2.2.2 s))); (z.1, z.2.1, v))
  else if w = 6 then uT st (fun d => (v, d.2))
  else if w = 7 then uT st (fun d => (d.1, d.2.1 + 1, (fun i => if i = d.2.1 then v else d.2.2.1 i), (fun i => if i = d.2.1 then 0 else d.2.2.2.1 i), d.2.2.2.2))
  else if w = 8 then uT st (fun d => (d.1, d.2.1, d.2.2.1, (fun i => if i = d.2.1 - 1 then v else d.2.2.2.1 i), d.2.2.2.2))
  else uT st (fun d => (d.1, d.2.1, d.2.2.1, d.2.2.2.1, v))
def hasN (D : Nat → NL) (l : List Nat) : Nat → Bool
  | 0 => false
  | n + 1 => hasN D l n || decide ((D n).1 = l)
def fresh (l : List Nat) : NL := (l, (0, 1, 0, 23, 0, fun _ => (0, 0, (fun _ => 0), (fun _ => 0), 0)))
def numS (w : Nat) (u : TK) (st : PS) : Sum FR (Nat × Nat × PS) :=
  if u.2.1 = 2 then (if lo_ w st ≤ u.2.2.2.2.1 ∧ u.2.2.2.2.1 ≤ hi_ w then (if w = 5 ∧ (cP st).2.2.2.2.1.testBit u.2.2.2.2.1 = true then .inl (.inl (3, u.2.2.1)) else .inr (w, u.2.2.2.1, put_ w u.2.2.2.2.1 st)) else .inl (.inl (2, u.2.2.1))) else .inl (.inl (1, u.2.2.1))
def namS (u : TK) (st : PS) : Sum FR (Nat × Nat × PS) :=
  if u.2.1 = 1 ∧ u.1 = 12 then (if hasN st.2.1 u.2.2.2.2.2 st.1 = true then .inl (.inl (3, u.2.2.1)) else .inr (0, u.2.2.2.1, (st.1, (fun i => if i = st.1 then fresh u.2.2.2.2.2 else st.2.1 i), st.2.2))) else .inl (.inl (1, u.2.2.1))
def stepP (T : Nat → Nat) (L A pos : Nat) (st : PS) : Sum FR (Nat × Nat × PS) :=
  if mayF A (tok T L pos).1 = false then .inl (.inl (1, (tok T L pos).2.2.1))
  else if (tok T L pos).1 = 11 then .inl (.inr st)
  else if (tok T L pos).1 = 10 then .inr (10, (tok T L pos).2.2.2.1, (st.1 + 1, st.2.1, st.2.2))
  else if (tok T L pos).1 = 0 then (if 10 ≤ st.1 then .inl (.inl (4, (tok T L pos).2.2.1)) else namS (tok T L (tok T L pos).2.2.2.1) st)
  else if (tok T L pos).1 = 7 ∧ 3 ≤ (cT st).2.1 then .inl (.inl (4, (tok T L pos).2.2.1))
  else numS (tok T L pos).1 (tok T L (tok T L pos).2.2.2.1) st
def iterP (T : Nat → Nat) (L : Nat) : Nat → Nat → Nat → PS → Option FR
  | 0, _, _, _ => none
  | f + 1, A, pos, st => match stepP T L A pos st with
    | .inl r => some r
    | .inr (A', pos', st') => iterP T L f A' pos' st'
/-- what stays so -/
def INV (A : Nat) (st : PS) : Prop := st.1 ≤ 10 ∧ (∀ p, p < st.1 → isN (st.2.1 p).1 ∧ okL (st.2.1 p).2) ∧ (A ≤ 9 → st.1 < 10 ∧ isN (st.2.1 st.1).1 ∧ okL (cP st)) ∧ (5 ≤ A → A ≤ 9 → st.2.2 < 4 ∧ (cP st).2.2.2.2.1.testBit st.2.2 = true) ∧ (A = 7 → 1 ≤ (cT st).2.1) ∧ (A ≤ 3 → (cP st).2.2.2.1 = 23)
theorem wd_c (l : List Nat) : (wd l = 12 ∧ ∀ i, i < 10 → l ≠ wds.getD i []) ∨ ∃ i, i < 10 ∧ wd l = i ∧ l = wds.getD i [] := by
  have go : ∀ (r : List (List Nat)) (k : Nat), (wix l k r = 12 ∧ ∀ i, i < r.length → l ≠ r.getD i []) ∨ ∃ i, i < r.length ∧ wix l k r = k + i ∧ l = r.getD i [] := by
    intro r
    induction r with
    | nil => intro k; exact Or.inl ⟨rfl, fun i hi => absurd hi (Nat.not_lt_zero i)⟩
    | cons x r ih =>
      intro k
      have e : wix l k (x :: r) = if l = x then k else wix l (k + 1) r := rfl
      rw [e]
      by_cases c : l = x
      · rw [if_pos c]
        exact Or.inr ⟨0, by simp, by omega, c⟩
      · rw [if_neg c]
        rcases ih (k + 1) with ⟨h1, h2⟩ | ⟨i, h1, h2, h3⟩
        · refine Or.inl ⟨h1, fun i hi => ?_⟩
          cases i with
          | zero => exact c
          | succ i => exact h2 i (by simpa using hi)
        · exact Or.inr ⟨i + 1, by simpa using h1, by omega, h3⟩
  rcases go wds 0 with ⟨h1, h2⟩ | ⟨i, h1, h2, h3⟩
  · exact Or.inl ⟨h1, h2⟩
  · exact Or.inr ⟨i, h1, by rw [Nat.zero_add] at h2; exact h2, h3⟩
theorem wds_i : ∀ i, i < 10 → ∀ j, j < 10 → wds.getD i [] = wds.getD j [] → i = j := by decide +kernel
theorem wd_k {l : List Nat} (i : Nat) (hi : i < 10) : wd l = i ↔ l = wds.getD i [] := by
  rcases wd_c l with ⟨h1, h2⟩ | ⟨j, h1, h2, h3⟩
  · rw [h1]
    exact ⟨fun h => by omega, fun h => absurd h (h2 i hi)⟩
  · rw [h2]
    constructor
    · rintro rfl; exact h3
    · intro h; exact wds_i j h1 i hi (h3.symm.trans h)
theorem wd_12 (l : List Nat) : wd l = 12 ∨ wd l < 10 := by
  rcases wd_c l with ⟨h1, -⟩ | ⟨j, h1, h2, -⟩
  · exact Or.inl h1
  · exact Or.inr (by omega)
theorem mF_1 : ∀ A, A < 13 → mayF A 1 = true → A = 0 := by decide
theorem mF_2 : ∀ A, A < 13 → mayF A 2 = true → A = 1 := by decide
theorem mF_3 : ∀ A, A < 13 → mayF A 3 = true → A = 1 ∨ A = 2 := by decide
theorem mF_4 : ∀ A, A < 13 → mayF A 4 = true → A = 3 := by decide
theorem mF_5 : ∀ A, A < 13 → mayF A 5 = true → A = 1 ∨ A = 2 ∨ A = 4 ∨ A = 9 := by decide
theorem mF_6 : ∀ A, A < 13 → mayF A 6 = true → A = 5 := by decide
theorem mF_7 : ∀ A, A < 13 → mayF A 7 = true → A = 5 ∨ A = 6 ∨ A = 8 := by decide
theorem mF_8 : ∀ A, A < 13 → mayF A 8 = true → A = 7 := by decide
theorem mF_9 : ∀ A, A < 13 → mayF A 9 = true → A = 5 ∨ A = 6 ∨ A = 8 := by decide
theorem mF_10 : ∀ A, A < 13 → mayF A 10 = true → A = 1 ∨ A = 2 ∨ A = 4 ∨ A = 9 := by decide
theorem mF_0 : ∀ A, A < 13 → mayF A 0 = true → 10 ≤ A := by decide
theorem mF_11 : ∀ A, A < 13 → mayF A 11 = true → A = 10 := by decide
theorem mF_12 : ∀ A, A < 13 → mayF A 12 = false := by decide
theorem mF_x {A w : Nat} (hA : A < 13) (hf : mayF A w = true) : (w = 1 → A = 0) ∧ (w = 2 → A = 1) ∧ (w = 3 → A = 1 ∨ A = 2) ∧ (w = 4 → A = 3) ∧ (w = 5 → A = 1 ∨ A = 2 ∨ A = 4 ∨ A = 9) ∧ (w = 6 → A = 5) ∧ (w = 7 → A = 5 ∨ A = 6 ∨ A = 8) ∧ (w = 8 → A = 7) ∧ (w = 9 → A = 5 ∨ A = 6 ∨ A = 8) ∧ (w = 10 → A = 1 ∨ A = 2 ∨ A = 4 ∨ A = 9) ∧ (w = 0 → 10 ≤ A) ∧ (w = 11 → A = 10) ∧ w ≠ 12 := ⟨fun h => mF_1 A hA (h ▸ hf), fun h => mF_2 A hA (h ▸ hf), fun h => mF_3 A hA (h ▸ hf), fun h => mF_4 A hA (h ▸ hf), fun h => mF_5 A hA (h ▸ hf), fun h => mF_6 A hA (h ▸ hf), fun h => mF_7 A hA (h ▸ hf), fun h => mF_8 A hA (h ▸ hf), fun h => mF_9 A hA (h ▸ hf), fun h => mF_10 A hA (h ▸ hf), fun h => mF_0 A hA (h ▸ hf), fun h => mF_11 A hA (h ▸ hf), fun h => by rw [h, mF_12 A hA] at hf; cases hf⟩
theorem put_1 (v : Nat) (st : PS) : put_ 1 v st = uP st (fun l => (v, l.2)) := rfl
theorem put_2 (v : Nat) (st : PS) : put_ 2 v st = uP st (fun l => (l.1, v, l.2.2)) := rfl
theorem put_3 (v : Nat) (st : PS) : put_ 3 v st = uP st (fun l => (l.1, l.2.1, v, l.2.2.2)) := rfl
theorem put_4 (v : Nat) (st : PS) : put_ 4 v st = uP st (fun l => (l.1, l.2.1, l.2.2.1, v, l.2.2.2.2)) := rfl
def f5 (v : Nat) (l : LD) : LD := (l.1, l.2.1, l.2.2.1, l.2.2.2.1, l.2.2.2.2.1 ||| 2 ^ v, (fun s => if s = v then (0, 0, (l.2.2.2.2.2 s).2.2.1, (l.2.2.2.2.2 s).2.2.2.1, 0) else l.2.2.2.2.2 s))
theorem put_5 (v : Nat) (st : PS) : put_ 5 v st = ((uP st (f5 v)).1, (uP st (f5 v)).2.1, v) := rfl
theorem put_6 (v : Nat) (st : PS) : put_ 6 v st = uT st (fun d => (v, d.2)) := rfl
def f7 (v : Nat) (d : PD) : PD := (d.1, d.2.1 + 1, (fun i => if i = d.2.1 then v else d.2.2.1 i), (fun i => if i = d.2.1 then 0 else d.2.2.2.1 i), d.2.2.2.2)
theorem put_7 (v : Nat) (st : PS) : put_ 7 v st = uT st (f7 v) := rfl
def f8 (v : Nat) (d : PD) : PD := (d.1, d.2.1, d.2.2.1, (fun i => if i = d.2.1 - 1 then v else d.2.2.2.1 i), d.2.2.2.2)
theorem put_8 (v : Nat) (st : PS) : put_ 8 v st = uT st (f8 v) := rfl
theorem put_9 (v : Nat) (st : PS) : put_ 9 v st = uT st (fun d => (d.1, d.2.1, d.2.2.1, d.2.2.2.1, v)) := rfl
theorem hi_1 : hi_ 1 = 999999 := rfl
theorem hi_2 : hi_ 2 = 24 := rfl
theorem hi_3 : hi_ 3 = 23 := rfl
theorem hi_4 : hi_ 4 = 23 := rfl
theorem hi_5 : hi_ 5 = 3 := rfl
theorem hi_6 : hi_ 6 = 20000 := rfl
theorem hi_7 : hi_ 7 = 20000 := rfl
theorem hi_8 : hi_ 8 = 9999 := rfl
theorem hi_9 : hi_ 9 = 9999 := rfl
theorem lo_2 (st : PS) : lo_ 2 st = 1 := rfl
theorem lo_4 (st : PS) : lo_ 4 st = (cP st).2.2.1 := rfl
theorem lo_7 (st : PS) : lo_ 7 st = (if (cT st).2.1 = 0 then 0 else (cT st).2.2.1 ((cT st).2.1 - 1)) + 1 := rfl
theorem enc6 (r : List Nat) (h : ∀ x ∈ r, 48 ≤ x ∧ x ≤ 57) : enc 10 48 r.reverse 0 < 10 ^ r.length := by
  induction r with
  | nil => decide
  | cons x r ih =>
    rw [List.reverse_cons, enc_app, List.length_cons, Nat.pow_succ]
    have := ih (fun y hy => h y (List.mem_cons_of_mem _ hy))
    have := h x (List.mem_cons_self ..)
    omega
theorem tok_k (T : Nat → Nat) (L pos : Nat) : ((tok T L pos).2.1 = 1 ∧ isN (tok T L pos).2.2.2.2.2 ∧ (tok T L pos).1 = wd (tok T L pos).2.2.2.2.2 ∧ (tok T L pos).2.2.2.2.2.length = (tok T L pos).2.2.2.1 - (tok T L pos).2.2.1) ∨ ((tok T L pos).2.1 = 2 ∧ (tok T L pos).1 = 12 ∧ (tok T L pos).2.2.2.2.1 ≤ 999999) ∨ ((tok T L pos).2.1 = 0 ∧ ((tok T L pos).1 = 10 ∨ (tok T L pos).1 = 11 ∨ (tok T L pos).1 = 12)) := by
  unfold tok
  generalize skb T L 840 pos = p
  unfold tokA
  by_cases c1 : 800 < L ∧ 800 ≤ p
  · rw [if_pos c1]; exact Or.inr (Or.inr ⟨rfl, Or.inr (Or.inr rfl)⟩)
  rw [if_neg c1]
  by_cases c2 : L ≤ p
  · rw [if_pos c2]; exact Or.inr (Or.inr ⟨rfl, Or.inr (Or.inl rfl)⟩)
  rw [if_neg c2]
  by_cases c3 : T p = 59
  · rw [if_pos c3]; exact Or.inr (Or.inr ⟨rfl, Or.inl rfl⟩)
  rw [if_neg c3]
  by_cases c4 : isNb (seg T p (ren T L 840 p - p)) = true
  · rw [if_pos c4]; exact Or.inl ⟨rfl, isNb_N c4, rfl, seg_len T p _⟩
  rw [if_neg c4]
  by_cases c5 : isMb (seg T p (ren T L 840 p - p)) = true
  · rw [if_pos c5]
    refine Or.inr (Or.inl ⟨rfl, rfl, ?_⟩)
    show enc 10 48 (seg T p (ren T L 840 p - p)) 0 ≤ 999999
    unfold isMb at c5
    simp only [Bool.and_eq_true, decide_eq_true_eq, List.all_eq_true] at c5
    have h1 := enc6 (seg T p (ren T L 840 p - p)).reverse (fun x hx => by
      have := c5.2 x (List.mem_reverse.mp hx)
      unfold isD at this
      simpa using this)
    rw [List.reverse_reverse, List.length_reverse] at h1
    have h2 : 10 ^ (seg T p (ren T L 840 p - p)).length ≤ 10 ^ 6 := Nat.pow_le_pow_right (by decide) c5.1.2
    have h3 : (10 : Nat) ^ 6 = 1000000 := by decide
    omega
  rw [if_neg c5]; exact Or.inr (Or.inr ⟨rfl, Or.inr (Or.inr rfl)⟩)
theorem tok_w {T : Nat → Nat} {L pos : Nat} (h : (tok T L pos).1 < 10) : (tok T L pos).2.1 = 1 := by
  rcases tok_k T L pos with ⟨k, -⟩ | ⟨-, k, -⟩ | ⟨-, k | k | k⟩ <;> first | exact k | omega
theorem hi_b (w : Nat) : hi_ w ≤ 999999 := by
  unfold hi_
  repeat' split
  all_goals decide
theorem okL_uT {st : PS} (h : okL (cP st)) (f : PD → PD) (hs : (cP st).2.2.2.2.1.testBit st.2.2 = true) (h4 : st.2.2 < 4) (hf : okP (f (cT st))) : okL (cP (uT st f)) := by
  obtain ⟨a1, a2, a3, a4, a5, a6, a7⟩ := h
  have e : cP (uT st f) = ((cP st).1, (cP st).2.1, (cP st).2.2.1, (cP st).2.2.2.1, (cP st).2.2.2.2.1, (fun s => if s = st.2.2 then f ((cP st).2.2.2.2.2 s) else (cP st).2.2.2.2.2 s)) := by
    show (if st.1 = st.1 then _ else _ : NL).2 = _
    rw [if_pos rfl]
    rfl
  rw [e]
  refine ⟨a1, a2, a3, a4, a5, a6, fun s s1 s2 => ?_⟩
  by_cases c : s = st.2.2
  · subst c
    show okP (if st.2.2 = st.2.2 then f ((cP st).2.2.2.2.2 st.2.2) else _)
    rw [if_pos rfl]
    exact hf
  · show okP (if s = st.2.2 then f ((cP st).2.2.2.2.2 s) else (cP st).2.2.2.2.2 s)
    rw [if_neg c]
    exact a7 s s1 s2
theorem cP_uP (st : PS) (f : LD → LD) : cP (uP st f) = f (cP st) := by
  show (if st.1 = st.1 then _ else _ : NL).2 = _
  rw [if_pos rfl]
  rfl
theorem or_bit : ∀ sv, sv < 16 → ∀ v, v < 4 → (sv ||| 2 ^ v) < 16 ∧ ∀ s, s < 4 → (sv ||| 2 ^ v).testBit s = (sv.testBit s || decide (s = v)) := by decide +kernel
/-- a number that is as told keeps the plan so -/
theorem put_ok {A w v : Nat} {st : PS} (hI : INV A st) (hA : A ≤ 9) (hw : 1 ≤ w) (hw9 : w ≤ 9) (hf : mayF A w = true) (h3 : w = 7 → (cT st).2.1 < 3) (h1 : lo_ w st ≤ v) (h2 : v ≤ hi_ w) (h5 : w = 5 → (cP st).2.2.2.2.1.testBit v = false) : INV w (put_ w v st) := by
  obtain ⟨i1, i2, i3, i4, i5, i6⟩ := hI
  obtain ⟨j1, j2, j3⟩ := i3 hA
  have j3' := j3
  obtain ⟨a1, a2, a3, a4, a5, a6, a7⟩ := j3'
  obtain ⟨m1, m2, m3, m4, m5, m6, m7, m8, m9, -, -, -, -⟩ := mF_x (by omega) hf
  have up (f : LD → LD) (hf : okL (f (cP st))) : (uP st f).1 ≤ 10 ∧ (∀ p, p < (uP st f).1 → isN ((uP st f).2.1 p).1 ∧ okL ((uP st f).2.1 p).2) ∧ (w ≤ 9 → (uP st f).1 < 10 ∧ isN ((uP st f).2.1 (uP st f).1).1 ∧ okL (cP (uP st f))) := by
    refine ⟨i1, fun p hp => ?_, fun _ => ⟨j1, ?_, ?_⟩⟩
    · have hp : p < st.1 := hp
      show isN (if p = st.1 then _ else st.2.1 p : NL).1 ∧ okL (if p = st.1 then _ else st.2.1 p : NL).2
      rw [if_neg (by omega)]
      exact i2 p hp
    · show isN (if st.1 = st.1 then ((st.2.1 st.1).1, _) else _ : NL).1
      rw [if_pos rfl]
      exact j2
    · rw [cP_uP]; exact hf
  have c9 : w = 1 ∨ w = 2 ∨ w = 3 ∨ w = 4 ∨ w = 5 ∨ w = 6 ∨ w = 7 ∨ w = 8 ∨ w = 9 := by omega
  have ut (f : PD → PD) (hw : 6 ≤ w) (hf : okP (cT st) → okP (f (cT st))) (h7 : w = 7 → 1 ≤ (f (cT st)).2.1) : INV w (uT st f) := by
    obtain ⟨k1, k2⟩ := i4 (by omega) hA
    have hf := hf (a7 _ k1 k2)
    obtain ⟨u1, u2, u3⟩ := up (fun l => (l.1, l.2.1, l.2.2.1, l.2.2.2.1, l.2.2.2.2.1, (fun s => if s = st.2.2 then f (l.2.2.2.2.2 s) else l.2.2.2.2.2 s))) (by
      have := okL_uT j3 f k2 k1 hf
      unfold uT at this
      rw [cP_uP] at this
      exact this)
    have ec : cP (uT st f) = ((cP st).1, (cP st).2.1, (cP st).2.2.1, (cP st).2.2.2.1, (cP st).2.2.2.2.1, (fun s => if s = st.2.2 then f ((cP st).2.2.2.2.2 s) else (cP st).2.2.2.2.2 s)) := cP_uP st _
    refine ⟨u1, u2, u3, fun _ _ => ⟨k1, ?_⟩, fun h => ?_, fun h => by omega⟩
    · rw [ec]; exact k2
    · have : cT (uT st f) = f (cT st) := by
        show (cP (uT st f)).2.2.2.2.2 st.2.2 = _
        rw [ec]
        show (if st.2.2 = st.2.2 then _ else _) = _
        rw [if_pos rfl]
        rfl
      rw [this]; exact h7 h
  rcases c9 with rfl | rfl | rfl | rfl | rfl | rfl | rfl | rfl | rfl
  · rw [hi_1] at h2
    rw [put_1]
    obtain ⟨u1, u2, u3⟩ := up (fun l => (v, l.2)) ⟨h2, a2, a3, a4, a5, a6, a7⟩
    exact ⟨u1, u2, u3, fun h => absurd h (by decide), fun h => absurd h (by decide), fun _ => by rw [cP_uP]; exact i6 (by omega)⟩
  · rw [hi_2] at h2
    rw [lo_2] at h1
    rw [put_2]
    obtain ⟨u1, u2, u3⟩ := up (fun l => (l.1, v, l.2.2)) ⟨a1, h1, h2, a4, a5, a6, a7⟩
    exact ⟨u1, u2, u3, fun h => absurd h (by decide), fun h => absurd h (by decide), fun _ => by rw [cP_uP]; exact i6 (by omega)⟩
  · have h6 := i6 (by omega)
    rw [hi_3] at h2
    rw [put_3]
    obtain ⟨u1, u2, u3⟩ := up (fun l => (l.1, l.2.1, v, l.2.2.2)) ⟨a1, a2, a3, by show v ≤ (cP st).2.2.2.1; omega, a5, a6, a7⟩
    exact ⟨u1, u2, u3, fun h => absurd h (by decide), fun h => absurd h (by decide), fun _ => by rw [cP_uP]; exact h6⟩
  · rw [hi_4] at h2
    rw [lo_4] at h1
    rw [put_4]
    obtain ⟨u1, u2, u3⟩ := up (fun l => (l.1, l.2.1, l.2.2.1, v, l.2.2.2.2)) ⟨a1, a2, a3, h1, h2, a6, a7⟩
    exact ⟨u1, u2, u3, fun h => absurd h (by decide), fun h => absurd h (by decide), fun h => absurd h (by decide)⟩
  · rw [hi_5] at h2
    rw [put_5]
    obtain ⟨o1, o2⟩ := or_bit _ a6 v (by omega)
    have k5 : okL (f5 v (cP st)) := by
      refine ⟨a1, a2, a3, a4, a5, o1, fun s s1 s2 => ?_⟩
      have e : (f5 v (cP st)).2.2.2.2.2 s = if s = v then (0, 0, ((cP st).2.2.2.2.2 s).2.2.1, ((cP st).2.2.2.2.2 s).2.2.2.1, 0) else (cP st).2.2.2.2.2 s := rfl
      rw [e]
      by_cases c : s = v
      · rw [if_pos c]
        exact ⟨Nat.zero_le _, Nat.zero_le _, fun i hi => absurd hi (Nat.not_lt_zero i), fun i hi => absurd hi (Nat.not_lt_zero _), Nat.zero_le _⟩
      · rw [if_neg c]
        refine a7 s s1 ?_
        have s2 : ((cP st).2.2.2.2.1 ||| 2 ^ v).testBit s = true := s2
        rw [o2 s s1] at s2
        simpa [c] using s2
    obtain ⟨u1, u2, u3⟩ := up (f5 v) k5
    have ec : cP ((uP st (f5 v)).1, (uP st (f5 v)).2.1, v) = f5 v (cP st) := cP_uP st (f5 v)
    refine ⟨u1, u2, u3, fun _ _ => ⟨(by show v < 4; omega), ?_⟩, fun h => absurd h (by decide), fun h => absurd h (by decide)⟩
    rw [ec]
    have e : (f5 v (cP st)).2.2.2.2.1 = (cP st).2.2.2.2.1 ||| 2 ^ v := rfl
    rw [e]
    show ((cP st).2.2.2.2.1 ||| 2 ^ v).testBit v = true
    rw [o2 v (by omega)]
    simp
  · rw [hi_6] at h2
    rw [put_6]
    exact ut (fun d => (v, d.2)) (by decide) (fun k => ⟨h2, k.2⟩) (fun h => absurd h (by decide))
  · have h3 := h3 rfl
    rw [hi_7] at h2
    rw [lo_7] at h1
    rw [put_7]
    refine ut (f7 v) (by decide) (fun k => ?_) (fun _ => Nat.succ_le_succ (Nat.zero_le _))
    generalize cT st = d at *
    obtain ⟨k1, k2, k3, k4, k5⟩ := k
    refine ⟨k1, (by show d.2.1 + 1 ≤ 3; omega), fun i hi => ?_, fun i hi => ?_, k5⟩
    · have hi : i < d.2.1 + 1 := hi
      show 1 ≤ (if i = d.2.1 then v else d.2.2.1 i) ∧ (if i = d.2.1 then v else d.2.2.1 i) ≤ 20000 ∧ (if i = d.2.1 then 0 else d.2.2.2.1 i) ≤ 9999
      by_cases c : i = d.2.1
      · rw [if_pos c, if_pos c]; omega
      · rw [if_neg c, if_neg c]; exact k3 i (by omega)
    · have hi : i + 1 < d.2.1 + 1 := hi
      show (if i = d.2.1 then v else d.2.2.1 i) < (if i + 1 = d.2.1 then v else d.2.2.1 (i + 1))
      rw [if_neg (by omega)]
      by_cases c : i + 1 = d.2.1
      · rw [if_pos c]
        rw [if_neg (by omega), show d.2.1 - 1 = i by omega] at h1
        omega
      · rw [if_neg c]; exact k4 i (by omega)
  · rw [hi_8] at h2
    rw [put_8]
    refine ut (f8 v) (by decide) (fun k => ?_) (fun h => absurd h (by decide))
    generalize cT st = d at *
    obtain ⟨k1, k2, k3, k4, k5⟩ := k
    refine ⟨k1, k2, fun i hi => ?_, k4, k5⟩
    obtain ⟨q1, q2, q3⟩ := k3 i hi
    refine ⟨q1, q2, ?_⟩
    show (if i = d.2.1 - 1 then v else d.2.2.2.1 i) ≤ 9999
    split
    · exact h2
    · exact q3
  · rw [hi_9] at h2
    rw [put_9]
    exact ut (fun d => (d.1, d.2.1, d.2.2.1, d.2.2.2.1, v)) (by decide) (fun k => ⟨k.1, k.2.1, k.2.2.1, k.2.2.2.1, h2⟩) (fun h => absurd h (by decide))
