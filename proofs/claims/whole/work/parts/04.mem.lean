/-! the memory: numbered cells; what a cell is, what it holds -/
abbrev Mem : Type := Nat × (Nat → Nat) × (Nat → Nat) × (Nat → Nat → Int32) × (Nat → Nat → Int64) × (Nat → Nat → Option Nat)
def gN (σ : Mem) : Nat := σ.1
def gL (σ : Mem) (c : Nat) : Nat := σ.2.2.1 c
def gI (σ : Mem) (c k : Nat) : Int32 := σ.2.2.2.1 c k
def gJ (σ : Mem) (c k : Nat) : Int64 := σ.2.2.2.2.1 c k
def gR (σ : Mem) (c k : Nat) : Option Nat := σ.2.2.2.2.2 c k
def kd (σ : Mem) (c : Nat) : Nat := if c < σ.1 then σ.2.1 c else 99
def sI (σ : Mem) (c k : Nat) (v : Int32) : Mem := (σ.1, σ.2.1, σ.2.2.1, (fun a j => if a = c ∧ j = k then v else σ.2.2.2.1 a j), σ.2.2.2.2.1, σ.2.2.2.2.2)
def sJ (σ : Mem) (c k : Nat) (v : Int64) : Mem := (σ.1, σ.2.1, σ.2.2.1, σ.2.2.2.1, (fun a j => if a = c ∧ j = k then v else σ.2.2.2.2.1 a j), σ.2.2.2.2.2)
def sR (σ : Mem) (c k : Nat) (v : Option Nat) : Mem := (σ.1, σ.2.1, σ.2.2.1, σ.2.2.2.1, σ.2.2.2.2.1, (fun a j => if a = c ∧ j = k then v else σ.2.2.2.2.2 a j))
def al (σ : Mem) (k n : Nat) : Mem := (σ.1 + 1, (fun a => if a = σ.1 then k else σ.2.1 a), (fun a => if a = σ.1 then n else σ.2.2.1 a), (fun a j => if a = σ.1 then 0 else σ.2.2.2.1 a j), (fun a j => if a = σ.1 then 0 else σ.2.2.2.2.1 a j), (fun a j => if a = σ.1 then none else σ.2.2.2.2.2 a j))
/-- the kinds of the fields of a class: 0 int, 1 long, 2 a reference -/
def sg (k : Nat) : List Nat := match k with
  | 0 => [2, 2, 0, 0, 0]
  | 1 => [2, 2, 2, 2]
  | 2 => [2, 1, 0, 0, 0, 0, 0, 0]
  | 3 => [2, 0]
  | 4 => [2, 2, 2, 2, 0, 0, 0, 0, 0, 1, 0, 0]
  | 5 => [2, 2, 2, 2, 2, 0, 0, 0]
  | 6 => [2, 0]
  | 7 => [2, 2]
  | 8 => [2, 2, 2, 2, 2, 2, 2, 2, 2, 0, 1, 0]
  | 9 => [0, 2, 0, 0, 0, 0, 0, 0, 0, 0, 1, 2, 2, 2, 2, 2, 2, 2, 2, 2, 2, 2, 0, 0, 0, 2, 0, 2, 0, 2, 2, 2, 2, 2, 0, 0, 2, 2, 2, 2, 2, 2]
  | _ => []
def fv (ad : Nat → Nat) (σ : Mem) (c j t : Nat) : Value := if t = 0 then .int (gI σ c j) else if t = 1 then .long (gJ σ c j) else va_rf ((gR σ c j).map ad)
def fsOf (ad : Nat → Nat) (σ : Mem) (c k : Nat) : List Value := (List.range (sg k).length).map (fun j => fv ad σ c j ((sg k).getD j 0))
def cellOf (cy : Nat → ClassId) (ad : Nat → Nat) (σ : Mem) (c : Nat) : va_E :=
  if σ.2.1 c < 10 then .inr (σ.2.1 c, fsOf ad σ c (σ.2.1 c))
  else if σ.2.1 c = 12 then .inl (cy 12, gL σ c, .inr (.inl (gJ σ c)))
  else if σ.2.1 c = 14 ∨ σ.2.1 c = 15 then .inl (cy (σ.2.1 c), gL σ c, .inr (.inr (.inr (.inr (fun i => (gR σ c i).map ad)))))
  else .inl (cy (σ.2.1 c), gL σ c, .inl (gI σ c))
def MM (cy : Nat → ClassId) (ad : Nat → Nat) (σ : Mem) : va_W := (List.range σ.1).map (fun c => (ad c, cellOf cy ad σ c))
def tyL (cy : Nat → ClassId) : List (ClassId × FieldType) := [(cy 10, .byte), (cy 11, .int), (cy 12, .long), (cy 13, .boolean), (cy 14, .object RX0), (cy 15, .object RX2)]
/-- the heap holds the memory; since H0 only A has changed; how large it is -/
def MS (D : va_G) (cy : Nat → ClassId) (ad : Nat → Nat) (A : Nat → Prop) (H0 : Heap) (z : Nat) (σ : Mem) (H : Heap) (locs : List Loc) : Prop :=
  va_P D vwCl (MM cy ad σ) H ∧ va_D A (MM cy ad σ) ∧ va_S A H0 H locs ∧ H.size = z
theorem kd_lt {σ : Mem} {c k : Nat} (h : kd σ c = k) (hk : k < 99) : c < σ.1 ∧ σ.2.1 c = k := by
  unfold kd at h
  split at h
  · exact ⟨by assumption, h⟩
  · omega
theorem MM_get (cy : Nat → ClassId) (ad : Nat → Nat) {σ : Mem} {c : Nat} (h : c < σ.1) : (MM cy ad σ)[c]? = some (ad c, cellOf cy ad σ c) := by
  simp [MM, h]
theorem fs_get (ad : Nat → Nat) (σ : Mem) (c : Nat) {k j : Nat} (h : j < (sg k).length) : (fsOf ad σ c k)[j]? = some (fv ad σ c j ((sg k).getD j 0)) := by
  simp [fsOf, h]
theorem fs_len (ad : Nat → Nat) (σ : Mem) (c k : Nat) : (fsOf ad σ c k).length = (sg k).length := by simp [fsOf]
theorem fs_set {ad : Nat → Nat} {σ σ' : Mem} {c k j : Nat} {v : Value} (hj : j < (sg k).length) (h1 : fv ad σ' c j ((sg k).getD j 0) = v) (h2 : ∀ i, i ≠ j → i < (sg k).length → fv ad σ' c i ((sg k).getD i 0) = fv ad σ c i ((sg k).getD i 0)) : (fsOf ad σ c k).set j v = fsOf ad σ' c k := by
  apply List.ext_getElem?
  intro i
  by_cases hi : i < (sg k).length
  · by_cases e : i = j
    · subst e
      rw [List.getElem?_set_self (by rw [fs_len]; exact hi), fs_get ad σ' c hi, h1]
    · rw [List.getElem?_set_ne (Ne.symm e), fs_get ad σ c hi, fs_get ad σ' c hi, h2 i e hi]
  · rw [List.getElem?_eq_none (by rw [List.length_set, fs_len]; omega), List.getElem?_eq_none (by rw [fs_len]; omega)]
theorem cellOf_obj (cy : Nat → ClassId) (ad : Nat → Nat) {σ : Mem} {c k : Nat} (h : σ.2.1 c = k) (hk : k < 10) : cellOf cy ad σ c = .inr (k, fsOf ad σ c k) := by
  subst h
  simp [cellOf, hk]
theorem cellOf_I (cy : Nat → ClassId) (ad : Nat → Nat) {σ : Mem} {c k : Nat} (h : σ.2.1 c = k) (hk : k = 10 ∨ k = 11 ∨ k = 13) : cellOf cy ad σ c = .inl (cy k, gL σ c, .inl (gI σ c)) := by
  subst h
  rcases hk with e | e | e <;> simp [cellOf, e]
theorem cellOf_J (cy : Nat → ClassId) (ad : Nat → Nat) {σ : Mem} {c : Nat} (h : σ.2.1 c = 12) : cellOf cy ad σ c = .inl (cy 12, gL σ c, .inr (.inl (gJ σ c))) := by
  simp [cellOf, h]
theorem cellOf_R (cy : Nat → ClassId) (ad : Nat → Nat) {σ : Mem} {c k : Nat} (h : σ.2.1 c = k) (hk : k = 14 ∨ k = 15) : cellOf cy ad σ c = .inl (cy k, gL σ c, .inr (.inr (.inr (.inr (fun i => (gR σ c i).map ad))))) := by
  subst h
  rcases hk with e | e <;> simp [cellOf, e]
/-- what a write to cell a makes of the world -/
theorem MM_set {cy : Nat → ClassId} {ad : Nat → Nat} {σ σ' : Mem} {a : Nat} (ha : a < σ.1) (hn : σ'.1 = σ.1) (ho : ∀ b, b ≠ a → cellOf cy ad σ' b = cellOf cy ad σ b) : (MM cy ad σ).set a (ad a, cellOf cy ad σ' a) = MM cy ad σ' := by
  apply List.ext_getElem?
  intro i
  by_cases hi : i < σ.1
  · by_cases e : i = a
    · subst e
      rw [List.getElem?_set_self (by simp [MM, hi]), MM_get cy ad (by rw [hn]; exact hi)]
    · rw [List.getElem?_set_ne (Ne.symm e), MM_get cy ad hi, MM_get cy ad (by rw [hn]; exact hi), ho i e]
  · rw [List.getElem?_eq_none (by simp [MM]; omega), List.getElem?_eq_none (by simp [MM, hn]; omega)]
theorem MS.upd {D : va_G} {cy : Nat → ClassId} {ad : Nat → Nat} {A : Nat → Prop} {H0 : Heap} {z : Nat} {σ σ' : Mem} {H H1 : Heap} {locs : List Loc} {a k : Nat} (h : MS D cy ad A H0 z σ H locs) (ha : a < σ.1) (hn : σ'.1 = σ.1) (ho : ∀ b, b ≠ a → cellOf cy ad σ' b = cellOf cy ad σ b) (he : va_at D vwCl (ad a, cellOf cy ad σ' a) H1) (hz : H1.size = H.size) (oq : ∀ q : Nat, q ≠ ad a → H1[q]? = H[q]?) : MS D cy ad A H0 z σ' H1 (locs ++ [⟨ad a, k⟩]) := by
  obtain ⟨hP, hD, hS, hs⟩ := h
  have hg := MM_get cy ad (σ := σ) ha
  refine ⟨?_, ?_, hS.put hz oq (hD.2 a _ hg), by rw [hz]; exact hs⟩
  · rw [← MM_set (cy := cy) (ad := ad) ha hn ho]; exact hP.set hD hg he oq
  · rw [← MM_set (cy := cy) (ad := ad) ha hn ho]; exact hD.set hg
theorem fv_sI {ad : Nat → Nat} {σ : Mem} {c k : Nat} {v : Int32} {b j t : Nat} (h : ¬ (b = c ∧ j = k)) : fv ad (sI σ c k v) b j t = fv ad σ b j t := by simp [fv, sI, gI, gJ, gR, h]
theorem fv_sJ {ad : Nat → Nat} {σ : Mem} {c k : Nat} {v : Int64} {b j t : Nat} (h : ¬ (b = c ∧ j = k)) : fv ad (sJ σ c k v) b j t = fv ad σ b j t := by simp [fv, sJ, gI, gJ, gR, h]
theorem fv_sR {ad : Nat → Nat} {σ : Mem} {c k : Nat} {v : Option Nat} {b j t : Nat} (h : ¬ (b = c ∧ j = k)) : fv ad (sR σ c k v) b j t = fv ad σ b j t := by simp [fv, sR, gI, gJ, gR, h]
theorem cellOf_sI {cy : Nat → ClassId} {ad : Nat → Nat} {σ : Mem} {c k : Nat} {v : Int32} {b : Nat} (h : b ≠ c) : cellOf cy ad (sI σ c k v) b = cellOf cy ad σ b := by
  have e1 : ∀ q, fsOf ad (sI σ c k v) b q = fsOf ad σ b q := fun q => by
    unfold fsOf
    apply List.map_congr_left
    intro j _
    exact fv_sI (fun z => h z.1)
  have e2 : gI (sI σ c k v) b = gI σ b := by funext j; simp [gI, sI, h]
  unfold cellOf
  rw [e2]
  simp only [e1]
  rfl
theorem cellOf_sJ {cy : Nat → ClassId} {ad : Nat → Nat} {σ : Mem} {c k : Nat} {v : Int64} {b : Nat} (h : b ≠ c) : cellOf cy ad (sJ σ c k v) b = cellOf cy ad σ b := by
  have e1 : ∀ q, fsOf ad (sJ σ c k v) b q = fsOf ad σ b q := fun q => by
    unfold fsOf
    apply List.map_congr_left
    intro j _
    exact fv_sJ (fun z => h z.1)
  have e2 : gJ (sJ σ c k v) b = gJ σ b := by funext j; simp [gJ, sJ, h]
  unfold cellOf
  rw [e2]
  simp only [e1]
  rfl
theorem cellOf_sR {cy : Nat → ClassId} {ad : Nat → Nat} {σ : Mem} {c k : Nat} {v : Option Nat} {b : Nat} (h : b ≠ c) : cellOf cy ad (sR σ c k v) b = cellOf cy ad σ b := by
  have e1 : ∀ q, fsOf ad (sR σ c k v) b q = fsOf ad σ b q := fun q => by
    unfold fsOf
    apply List.map_congr_left
    intro j _
    exact fv_sR (fun z => h z.1)
  have e2 : gR (sR σ c k v) b = gR σ b := by funext j; simp [gR, sR, h]
  unfold cellOf
  rw [e2]
  simp only [e1]
  rfl
