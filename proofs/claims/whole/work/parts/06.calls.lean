theorem va_cat (r : Option Nat) : (va_rf r).category = 1 := by cases r <;> rfl
def bd {α β : Type} (v : α) (f : α → β) : β := f v
theorem bd_elim {α β : Type} {v : α} {f : α → β} {r : β} (h : bd v f = r) : ∃ x, x = v ∧ f x = r := ⟨v, rfl, h⟩
theorem bn {α β : Type} {o : Option α} {f : α → Option β} {r : β} (h : o.bind f = some r) : ∃ x, o = some x ∧ f x = some r := by
  cases o with
  | none => cases h
  | some x => exact ⟨x, rfl, h⟩
theorem bn2 {α γ β : Type} {o : Option (α × γ)} {f : α × γ → Option β} {r : β} (h : o.bind f = some r) : ∃ x y, o = some (x, y) ∧ f (x, y) = some r := by
  cases o with
  | none => cases h
  | some x => exact ⟨x.1, x.2, rfl, h⟩
def b2 {α γ β : Type} (o : Option (α × γ)) (f : α → γ → Option β) : Option β := o.bind fun q => f q.1 q.2
theorem b2_elim {α γ β : Type} {o : Option (α × γ)} {f : α → γ → Option β} {r : β} (h : b2 o f = some r) : ∃ x y, o = some (x, y) ∧ f x y = some r := by
  cases o with
  | none => cases h
  | some x => exact ⟨x.1, x.2, rfl, h⟩
def FU : Nat := 1000000
def fI (σ : Mem) (k j : Nat) (v : Option Nat) : Option Int32 := v.bind fun c => if kd σ c = k then some (gI σ c j) else none
def fJ (σ : Mem) (k j : Nat) (v : Option Nat) : Option Int64 := v.bind fun c => if kd σ c = k then some (gJ σ c j) else none
def fR (σ : Mem) (k j : Nat) (v : Option Nat) : Option (Option Nat) := v.bind fun c => if kd σ c = k then some (gR σ c j) else none
def pI (σ : Mem) (k j : Nat) (v : Option Nat) (x : Int32) : Option Mem := v.bind fun c => if kd σ c = k then some (sI σ c j x) else none
def pJ (σ : Mem) (k j : Nat) (v : Option Nat) (x : Int64) : Option Mem := v.bind fun c => if kd σ c = k then some (sJ σ c j x) else none
def pR (σ : Mem) (k j : Nat) (v : Option Nat) (x : Option Nat) : Option Mem := v.bind fun c => if kd σ c = k then some (sR σ c j x) else none
def aI (σ : Mem) (k : Nat) (v : Option Nat) (i : Int32) : Option Int32 := v.bind fun c => if kd σ c = k then (if i < 0 ∨ gL σ c ≤ i.toNatClampNeg then none else some (gI σ c i.toNatClampNeg)) else none
def aJ (σ : Mem) (k : Nat) (v : Option Nat) (i : Int32) : Option Int64 := v.bind fun c => if kd σ c = k then (if i < 0 ∨ gL σ c ≤ i.toNatClampNeg then none else some (gJ σ c i.toNatClampNeg)) else none
def aR (σ : Mem) (k : Nat) (v : Option Nat) (i : Int32) : Option (Option Nat) := v.bind fun c => if kd σ c = k then (if i < 0 ∨ gL σ c ≤ i.toNatClampNeg then none else some (gR σ c i.toNatClampNeg)) else none
def wI (σ : Mem) (k : Nat) (v : Option Nat) (i x : Int32) : Option Mem := v.bind fun c => if kd σ c = k then (if i < 0 ∨ gL σ c ≤ i.toNatClampNeg then none else some (sI σ c i.toNatClampNeg x)) else none
def wJ (σ : Mem) (k : Nat) (v : Option Nat) (i : Int32) (x : Int64) : Option Mem := v.bind fun c => if kd σ c = k then (if i < 0 ∨ gL σ c ≤ i.toNatClampNeg then none else some (sJ σ c i.toNatClampNeg x)) else none
def aL (σ : Mem) (k : Nat) (v : Option Nat) : Option Int32 := v.bind fun c => if kd σ c = k then some (nI (gL σ c)) else none
def aW (i : Int32) : Option Int64 := if i < 0 ∨ 10 ≤ i.toNatClampNeg then none else some (wLet i.toNatClampNeg)
theorem aW_in {i : Int32} {x : Int64} (h : aW i = some x) : vp_in i 10 := by
  unfold aW at h
  split at h
  · cases h
  · assumption
theorem aW_val {i : Int32} {x : Int64} (h : aW i = some x) : Value.long (wLet i.toNatClampNeg) = .long x := by
  unfold aW at h
  split at h
  · cases h
  · cases h; rfl
def kT (σ : Mem) (k : Nat) (v : Option Nat) : Option Nat := v.bind fun c => if kd σ c = k then some c else none
theorem fI_some {σ : Mem} {k j : Nat} {v : Option Nat} {x : Int32} (h : fI σ k j v = some x) : ∃ c, v = some c ∧ kd σ c = k ∧ x = gI σ c j := by
  obtain ⟨c, hv, h⟩ := bn h
  split at h
  · exact ⟨c, hv, by assumption, (Option.some.inj h).symm⟩
  · cases h
theorem fJ_some {σ : Mem} {k j : Nat} {v : Option Nat} {x : Int64} (h : fJ σ k j v = some x) : ∃ c, v = some c ∧ kd σ c = k ∧ x = gJ σ c j := by
  obtain ⟨c, hv, h⟩ := bn h
  split at h
  · exact ⟨c, hv, by assumption, (Option.some.inj h).symm⟩
  · cases h
theorem fR_some {σ : Mem} {k j : Nat} {v : Option Nat} {x : Option Nat} (h : fR σ k j v = some x) : ∃ c, v = some c ∧ kd σ c = k ∧ x = gR σ c j := by
  obtain ⟨c, hv, h⟩ := bn h
  split at h
  · exact ⟨c, hv, by assumption, (Option.some.inj h).symm⟩
  · cases h
theorem pI_some {σ τ : Mem} {k j : Nat} {v : Option Nat} {x : Int32} (h : pI σ k j v x = some τ) : ∃ c, v = some c ∧ kd σ c = k ∧ τ = sI σ c j x := by
  obtain ⟨c, hv, h⟩ := bn h
  split at h
  · exact ⟨c, hv, by assumption, (Option.some.inj h).symm⟩
  · cases h
theorem pJ_some {σ τ : Mem} {k j : Nat} {v : Option Nat} {x : Int64} (h : pJ σ k j v x = some τ) : ∃ c, v = some c ∧ kd σ c = k ∧ τ = sJ σ c j x := by
  obtain ⟨c, hv, h⟩ := bn h
  split at h
  · exact ⟨c, hv, by assumption, (Option.some.inj h).symm⟩
  · cases h
theorem pR_some {σ τ : Mem} {k j : Nat} {v : Option Nat} {x : Option Nat} (h : pR σ k j v x = some τ) : ∃ c, v = some c ∧ kd σ c = k ∧ τ = sR σ c j x := by
  obtain ⟨c, hv, h⟩ := bn h
  split at h
  · exact ⟨c, hv, by assumption, (Option.some.inj h).symm⟩
  · cases h
theorem aI_some {σ : Mem} {k : Nat} {v : Option Nat} {i : Int32} {x : Int32} (h : aI σ k v i = some x) : ∃ c, v = some c ∧ kd σ c = k ∧ vp_in i (gL σ c) ∧ x = gI σ c i.toNatClampNeg := by
  obtain ⟨c, hv, h⟩ := bn h
  split at h
  · split at h
    · cases h
    · exact ⟨c, hv, by assumption, by assumption, (Option.some.inj h).symm⟩
  · cases h
theorem aJ_some {σ : Mem} {k : Nat} {v : Option Nat} {i : Int32} {x : Int64} (h : aJ σ k v i = some x) : ∃ c, v = some c ∧ kd σ c = k ∧ vp_in i (gL σ c) ∧ x = gJ σ c i.toNatClampNeg := by
  obtain ⟨c, hv, h⟩ := bn h
  split at h
  · split at h
    · cases h
    · exact ⟨c, hv, by assumption, by assumption, (Option.some.inj h).symm⟩
  · cases h
theorem aR_some {σ : Mem} {k : Nat} {v : Option Nat} {i : Int32} {x : Option Nat} (h : aR σ k v i = some x) : ∃ c, v = some c ∧ kd σ c = k ∧ vp_in i (gL σ c) ∧ x = gR σ c i.toNatClampNeg := by
  obtain ⟨c, hv, h⟩ := bn h
  split at h
  · split at h
    · cases h
    · exact ⟨c, hv, by assumption, by assumption, (Option.some.inj h).symm⟩
  · cases h
theorem wI_some {σ τ : Mem} {k : Nat} {v : Option Nat} {i : Int32} {x : Int32} (h : wI σ k v i x = some τ) : ∃ c, v = some c ∧ kd σ c = k ∧ vp_in i (gL σ c) ∧ τ = sI σ c i.toNatClampNeg x := by
  obtain ⟨c, hv, h⟩ := bn h
  split at h
  · split at h
    · cases h
    · exact ⟨c, hv, by assumption, by assumption, (Option.some.inj h).symm⟩
  · cases h
theorem wJ_some {σ τ : Mem} {k : Nat} {v : Option Nat} {i : Int32} {x : Int64} (h : wJ σ k v i x = some τ) : ∃ c, v = some c ∧ kd σ c = k ∧ vp_in i (gL σ c) ∧ τ = sJ σ c i.toNatClampNeg x := by
  obtain ⟨c, hv, h⟩ := bn h
  split at h
  · split at h
    · cases h
    · exact ⟨c, hv, by assumption, by assumption, (Option.some.inj h).symm⟩
  · cases h
theorem aL_some {σ : Mem} {k : Nat} {v : Option Nat} {x : Int32} (h : aL σ k v = some x) : ∃ c, v = some c ∧ kd σ c = k ∧ x = nI (gL σ c) := by
  obtain ⟨c, hv, h⟩ := bn h
  split at h
  · exact ⟨c, hv, by assumption, (Option.some.inj h).symm⟩
  · cases h
theorem kT_some {σ : Mem} {k : Nat} {v : Option Nat} {x : Nat} (h : kT σ k v = some x) : v = some x ∧ kd σ x = k := by
  obtain ⟨c, hv, h⟩ := bn h
  split at h
  · cases h; exact ⟨hv, by assumption⟩
  · cases h
section RX
variable {p : Program} {l : Launch} {e : Env} {R : Room} {s : State} {m : MethodId} {args : Array Value} {below : List Frame} {meth : Method} {c : Code} {H : Heap} {locs : List Loc} {cells slots : Nat} {Q : State → Prop}
variable {cc : ByteArray} {pc : Nat} {ls : Array Slot} {rest : List Value} {D : va_G} {cy : Nat → ClassId} {ad : Nat → Nat} {A : Nat → Prop} {H0 : Heap} {z : Nat} {σ : Mem}
theorem lr_aload_n (hx : p.tables.exec = Jvm.exec) (hb : c.code = cc) {k : Fin 4} {i : Nat} {r : Option Nat} (hdg : decode cc pc = .ok (.aload_n k, 1)) (hi : (k : Nat) = i) (hl : ls[i]? = some (.val (va_rf r))) (kk : W p l e R s m args below meth c H locs cells slots Q (F0 m (pc + 1) ls (va_rf r :: rest))) : W p l e R s m args below meth c H locs cells slots Q (F0 m pc ls rest) := by
  cases r with
  | none => exact lv_aload_nN hx hb hdg hi hl kk
  | some x => exact lv_aload_n hx hb hdg hi hl kk
theorem lr_aload (hx : p.tables.exec = Jvm.exec) (hb : c.code = cc) {i : Nat} {r : Option Nat} (hdg : decode cc pc = .ok (.aload i, 2)) (hl : ls[i]? = some (.val (va_rf r))) (kk : W p l e R s m args below meth c H locs cells slots Q (F0 m (pc + 2) ls (va_rf r :: rest))) : W p l e R s m args below meth c H locs cells slots Q (F0 m pc ls rest) := by
  cases r with
  | none => exact lv_aloadN hx hb hdg hl kk
  | some x => exact lv_aload hx hb hdg hl kk
theorem lr_astore_n (hx : p.tables.exec = Jvm.exec) (hb : c.code = cc) {k : Fin 4} {i nL : Nat} {r : Option Nat} {lv lv' : List (Nat × Value)} (hdg : decode cc pc = .ok (.astore_n k, 1)) (hi : (k : Nat) = i) (h : lv_has ls nL lv) (hn : i < nL) (hl : (i, va_rf r) :: lv.filter (fun q => !(q.1 == i) && !(q.1 + 1 == i && q.2.category == 2)) = lv')
    (kk : ∀ ls : Array Slot, lv_has ls nL lv' → W p l e R s m args below meth c H locs cells slots Q (F0 m (pc + 1) ls rest)) : W p l e R s m args below meth c H locs cells slots Q (F0 m pc ls (va_rf r :: rest)) := by
  cases r with
  | none => exact lv_astore_nN hx hb hdg hi h hn hl kk
  | some x => exact lv_astore_n hx hb hdg hi h hn hl kk
theorem lr_astore (hx : p.tables.exec = Jvm.exec) (hb : c.code = cc) {i nL : Nat} {r : Option Nat} {lv lv' : List (Nat × Value)} (hdg : decode cc pc = .ok (.astore i, 2)) (h : lv_has ls nL lv) (hn : i < nL) (hl : (i, va_rf r) :: lv.filter (fun q => !(q.1 == i) && !(q.1 + 1 == i && q.2.category == 2)) = lv')
    (kk : ∀ ls : Array Slot, lv_has ls nL lv' → W p l e R s m args below meth c H locs cells slots Q (F0 m (pc + 2) ls rest)) : W p l e R s m args below meth c H locs cells slots Q (F0 m pc ls (va_rf r :: rest)) := by
  cases r with
  | none => exact lv_astoreN hx hb hdg h hn hl kk
  | some x => exact lv_astore hx hb hdg h hn hl kk
theorem lr_null (hx : p.tables.exec = Jvm.exec) (hb : c.code = cc) (hdg : decode cc pc = .ok (.aconst_null, 1)) (kk : W p l e R s m args below meth c H locs cells slots Q (F0 m (pc + 1) ls (va_rf (Option.map ad none) :: rest))) : W p l e R s m args below meth c H locs cells slots Q (F0 m pc ls rest) := lv_null hx hb hdg kk
theorem lr_ifnull (hx : p.tables.exec = Jvm.exec) (hb : c.code = cc) {v : Option Nat} {off : Int} {tgt : Nat} (hdg : decode cc pc = .ok (.ifnull off, 3)) (ht : (pc : Int) + off = (tgt : Int)) (kt : v = none → W p l e R s m args below meth c H locs cells slots Q (F0 m tgt ls rest)) (kf : ¬ v = none → W p l e R s m args below meth c H locs cells slots Q (F0 m (pc + 3) ls rest)) : W p l e R s m args below meth c H locs cells slots Q (F0 m pc ls (va_rf (Option.map ad v) :: rest)) := by
  cases v with
  | none => exact lv_ifnullN hx hb hdg ht (kt rfl)
  | some x => exact lv_ifnull hx hb hdg (kf (by simp))
theorem lr_ifnonnull (hx : p.tables.exec = Jvm.exec) (hb : c.code = cc) {v : Option Nat} {off : Int} {tgt : Nat} (hdg : decode cc pc = .ok (.ifnonnull off, 3)) (ht : (pc : Int) + off = (tgt : Int)) (kt : ¬ v = none → W p l e R s m args below meth c H locs cells slots Q (F0 m tgt ls rest)) (kf : v = none → W p l e R s m args below meth c H locs cells slots Q (F0 m (pc + 3) ls rest)) : W p l e R s m args below meth c H locs cells slots Q (F0 m pc ls (va_rf (Option.map ad v) :: rest)) := by
  cases v with
  | none => exact lv_ifnonnullN hx hb hdg (kf rfl)
  | some x => exact lv_ifnonnull hx hb hdg ht (kt (by simp))
theorem lr_nmi {x y : Int32} (h : x = y) (kk : W p l e R s m args below meth c H locs cells slots Q (F0 m pc ls (.int x :: rest))) : W p l e R s m args below meth c H locs cells slots Q (F0 m pc ls (.int y :: rest)) := h ▸ kk
theorem lr_nml {x y : Int64} (h : x = y) (kk : W p l e R s m args below meth c H locs cells slots Q (F0 m pc ls (.long x :: rest))) : W p l e R s m args below meth c H locs cells slots Q (F0 m pc ls (.long y :: rest)) := h ▸ kk
theorem lc_eq (hx : p.tables.exec = Jvm.exec) (hb : c.code = cc) {x y : Int64} {off : Int} {tgt : Nat} (d1 : decode cc pc = .ok (.lcmp, 1)) (d2 : decode cc (pc + 1) = .ok (.ifCond .eq off, 3)) (ht : ((pc + 1 : Nat) : Int) + off = (tgt : Int)) (kt : x = y → W p l e R s m args below meth c H locs cells slots Q (F0 m tgt ls rest)) (kf : ¬ x = y → W p l e R s m args below meth c H locs cells slots Q (F0 m (pc + 1 + 3) ls rest)) : W p l e R s m args below meth c H locs cells slots Q (F0 m pc ls (.long y :: .long x :: rest)) := by
  have hc : lg_cmp x y = 0 ↔ x = y := by
    unfold lg_cmp
    simp only [gt_iff_lt, Int64.lt_iff_toInt_lt, ← Int64.toInt_inj]
    split
    · constructor
      · intro h; exact absurd h (by decide)
      · intro h; omega
    · split
      · constructor <;> intro _ <;> first | assumption | rfl
      · constructor
        · intro h; exact absurd h (by decide)
        · intro h; contradiction
  exact W.lcmp hx hb d1 (lv_if_eq hx hb d2 ht (fun q => kt (hc.mp q)) (fun q => kf (fun z => q (hc.mpr z))))
theorem lc_ne (hx : p.tables.exec = Jvm.exec) (hb : c.code = cc) {x y : Int64} {off : Int} {tgt : Nat} (d1 : decode cc pc = .ok (.lcmp, 1)) (d2 : decode cc (pc + 1) = .ok (.ifCond .ne off, 3)) (ht : ((pc + 1 : Nat) : Int) + off = (tgt : Int)) (kt : ¬ x = y → W p l e R s m args below meth c H locs cells slots Q (F0 m tgt ls rest)) (kf : x = y → W p l e R s m args below meth c H locs cells slots Q (F0 m (pc + 1 + 3) ls rest)) : W p l e R s m args below meth c H locs cells slots Q (F0 m pc ls (.long y :: .long x :: rest)) := by
  have hc : lg_cmp x y = 0 ↔ x = y := by
    unfold lg_cmp
    simp only [gt_iff_lt, Int64.lt_iff_toInt_lt, ← Int64.toInt_inj]
    split
    · constructor
      · intro h; exact absurd h (by decide)
      · intro h; omega
    · split
      · constructor <;> intro _ <;> first | assumption | rfl
      · constructor
        · intro h; exact absurd h (by decide)
        · intro h; contradiction
  exact W.lcmp hx hb d1 (lv_if_ne hx hb d2 ht (fun q => kt (fun z => q (hc.mpr z))) (fun q => kf (hc.mp q)))
theorem lg_lt (x y : Int64) : lg_cmp x y < 0 ↔ x < y := by
  unfold lg_cmp
  simp only [gt_iff_lt, Int64.lt_iff_toInt_lt, ← Int64.toInt_inj]
  split
  · constructor
    · intro h; exact absurd h (by decide)
    · intro h; omega
  · split
    · constructor
      · intro h; exact absurd h (by decide)
      · intro h; omega
    · constructor
      · intro _; omega
      · intro _; decide
theorem lg_gt (x y : Int64) : 0 < lg_cmp x y ↔ y < x := by
  unfold lg_cmp
  simp only [gt_iff_lt, Int64.lt_iff_toInt_lt, ← Int64.toInt_inj]
  split
  · constructor
    · intro _; assumption
    · intro _; decide
  · split
    · constructor
      · intro h; exact absurd h (by decide)
      · intro h; omega
    · constructor
      · intro h; exact absurd h (by decide)
      · intro h; omega
theorem lg_le (x y : Int64) : lg_cmp x y ≤ 0 ↔ x ≤ y := by
  unfold lg_cmp
  simp only [gt_iff_lt, Int64.lt_iff_toInt_lt, Int64.le_iff_toInt_le, ← Int64.toInt_inj]
  split
  · constructor
    · intro h; exact absurd h (by decide)
    · intro h; omega
  · split
    · constructor
      · intro _; omega
      · intro _; decide
    · constructor
      · intro _; omega
      · intro _; decide
theorem lc_lt (hx : p.tables.exec = Jvm.exec) (hb : c.code = cc) {x y : Int64} {off : Int} {tgt : Nat} (d1 : decode cc pc = .ok (.lcmp, 1)) (d2 : decode cc (pc + 1) = .ok (.ifCond .lt off, 3)) (ht : ((pc + 1 : Nat) : Int) + off = (tgt : Int)) (kt : x < y → W p l e R s m args below meth c H locs cells slots Q (F0 m tgt ls rest)) (kf : ¬ x < y → W p l e R s m args below meth c H locs cells slots Q (F0 m (pc + 1 + 3) ls rest)) : W p l e R s m args below meth c H locs cells slots Q (F0 m pc ls (.long y :: .long x :: rest)) :=
  W.lcmp hx hb d1 (lv_if_lt hx hb d2 ht (fun q => kt ((lg_lt x y).mp q)) (fun q => kf (fun z => q ((lg_lt x y).mpr z))))
theorem lc_ge (hx : p.tables.exec = Jvm.exec) (hb : c.code = cc) {x y : Int64} {off : Int} {tgt : Nat} (d1 : decode cc pc = .ok (.lcmp, 1)) (d2 : decode cc (pc + 1) = .ok (.ifCond .ge off, 3)) (ht : ((pc + 1 : Nat) : Int) + off = (tgt : Int)) (kt : y ≤ x → W p l e R s m args below meth c H locs cells slots Q (F0 m tgt ls rest)) (kf : ¬ y ≤ x → W p l e R s m args below meth c H locs cells slots Q (F0 m (pc + 1 + 3) ls rest)) : W p l e R s m args below meth c H locs cells slots Q (F0 m pc ls (.long y :: .long x :: rest)) :=
  W.lcmp hx hb d1 (lv_if_ge hx hb d2 ht (fun q => kt ((lg_cmp_ge x y).mp q)) (fun q => kf (fun z => q ((lg_cmp_ge x y).mpr z))))
theorem lc_gt (hx : p.tables.exec = Jvm.exec) (hb : c.code = cc) {x y : Int64} {off : Int} {tgt : Nat} (d1 : decode cc pc = .ok (.lcmp, 1)) (d2 : decode cc (pc + 1) = .ok (.ifCond .gt off, 3)) (ht : ((pc + 1 : Nat) : Int) + off = (tgt : Int)) (kt : y < x → W p l e R s m args below meth c H locs cells slots Q (F0 m tgt ls rest)) (kf : ¬ y < x → W p l e R s m args below meth c H locs cells slots Q (F0 m (pc + 1 + 3) ls rest)) : W p l e R s m args below meth c H locs cells slots Q (F0 m pc ls (.long y :: .long x :: rest)) :=
  W.lcmp hx hb d1 (lv_if_gt hx hb d2 ht (fun q => kt ((lg_gt x y).mp q)) (fun q => kf (fun z => q ((lg_gt x y).mpr z))))
theorem lc_le (hx : p.tables.exec = Jvm.exec) (hb : c.code = cc) {x y : Int64} {off : Int} {tgt : Nat} (d1 : decode cc pc = .ok (.lcmp, 1)) (d2 : decode cc (pc + 1) = .ok (.ifCond .le off, 3)) (ht : ((pc + 1 : Nat) : Int) + off = (tgt : Int)) (kt : x ≤ y → W p l e R s m args below meth c H locs cells slots Q (F0 m tgt ls rest)) (kf : ¬ x ≤ y → W p l e R s m args below meth c H locs cells slots Q (F0 m (pc + 1 + 3) ls rest)) : W p l e R s m args below meth c H locs cells slots Q (F0 m pc ls (.long y :: .long x :: rest)) :=
  W.lcmp hx hb d1 (lv_if_le hx hb d2 ht (fun q => kt ((lg_le x y).mp q)) (fun q => kf (fun z => q ((lg_le x y).mpr z))))
theorem g_fI {nL : Nat} {own ref C : String} {T : u_T} {N ci index : Nat} {v : Option Nat} {x : Int32} (hC : CallFix p m c cc nL s args WALL own) (hin : ∀ w ∈ u_ws C T N, w ∈ WALL) (hG : GS D cy A s) (hM : MS D cy ad A H0 z σ H locs) (k : Nat) (e1 : fI σ ci k v = some x) (hci : ci < 10) (hc : vwCl[ci]? = some (C, T, N)) (hN : N = (sg ci).length) (hkN : k < N) (ht : (sg ci).getD k 0 = 0) (hlink : (Cond.fieldLink own index ref (T k).2.1 (T k).2.2.1).before args s = true) (hsame : ∀ x, s.fieldFound? (T k).1 (T k).2.1 (T k).2.2.1 = some x → s.fieldFound? ref (T k).2.1 (T k).2.2.1 = some x) (hdg : decode cc pc = .ok (.getfield index, 3))
    (kk : W p l e R s m args below meth c H locs cells slots Q (F0 m (pc + 3) ls (.int x :: rest))) : W p l e R s m args below meth c H locs cells slots Q (F0 m pc ls (va_rf (Option.map ad v) :: rest)) := by
  obtain ⟨b, rfl, hk, rfl⟩ := fI_some e1
  refine m_get hC hin hG.1 hM hk hci hc hN k hkN hlink hsame hdg ?_
  rw [ht]
  exact kk
theorem g_fJ {nL : Nat} {own ref C : String} {T : u_T} {N ci index : Nat} {v : Option Nat} {x : Int64} (hC : CallFix p m c cc nL s args WALL own) (hin : ∀ w ∈ u_ws C T N, w ∈ WALL) (hG : GS D cy A s) (hM : MS D cy ad A H0 z σ H locs) (k : Nat) (e1 : fJ σ ci k v = some x) (hci : ci < 10) (hc : vwCl[ci]? = some (C, T, N)) (hN : N = (sg ci).length) (hkN : k < N) (ht : (sg ci).getD k 0 = 1) (hlink : (Cond.fieldLink own index ref (T k).2.1 (T k).2.2.1).before args s = true) (hsame : ∀ x, s.fieldFound? (T k).1 (T k).2.1 (T k).2.2.1 = some x → s.fieldFound? ref (T k).2.1 (T k).2.2.1 = some x) (hdg : decode cc pc = .ok (.getfield index, 3))
    (kk : W p l e R s m args below meth c H locs cells slots Q (F0 m (pc + 3) ls (.long x :: rest))) : W p l e R s m args below meth c H locs cells slots Q (F0 m pc ls (va_rf (Option.map ad v) :: rest)) := by
  obtain ⟨b, rfl, hk, rfl⟩ := fJ_some e1
  refine m_get hC hin hG.1 hM hk hci hc hN k hkN hlink hsame hdg ?_
  rw [ht]
  exact kk
theorem g_fR {nL : Nat} {own ref C : String} {T : u_T} {N ci index : Nat} {v : Option Nat} {x : Option Nat} (hC : CallFix p m c cc nL s args WALL own) (hin : ∀ w ∈ u_ws C T N, w ∈ WALL) (hG : GS D cy A s) (hM : MS D cy ad A H0 z σ H locs) (k : Nat) (e1 : fR σ ci k v = some x) (hci : ci < 10) (hc : vwCl[ci]? = some (C, T, N)) (hN : N = (sg ci).length) (hkN : k < N) (ht : (sg ci).getD k 0 = 2) (hlink : (Cond.fieldLink own index ref (T k).2.1 (T k).2.2.1).before args s = true) (hsame : ∀ x, s.fieldFound? (T k).1 (T k).2.1 (T k).2.2.1 = some x → s.fieldFound? ref (T k).2.1 (T k).2.2.1 = some x) (hdg : decode cc pc = .ok (.getfield index, 3))
    (kk : W p l e R s m args below meth c H locs cells slots Q (F0 m (pc + 3) ls (va_rf (Option.map ad x) :: rest))) : W p l e R s m args below meth c H locs cells slots Q (F0 m pc ls (va_rf (Option.map ad v) :: rest)) := by
  obtain ⟨b, rfl, hk, rfl⟩ := fR_some e1
  refine m_get hC hin hG.1 hM hk hci hc hN k hkN hlink hsame hdg ?_
  rw [ht]
  exact kk
theorem g_pI {nL : Nat} {own ref C : String} {T : u_T} {N ci index : Nat} {v : Option Nat} {x : Int32} {τ : Mem} (hC : CallFix p m c cc nL s args WALL own) (hin : ∀ w ∈ u_ws C T N, w ∈ WALL) (ty0 : Nat → FieldType) (hty : ∀ k, k < N → parseFieldDescriptor (T k).2.2.1 = some (ty0 k)) (hnm : ∀ a, a < N → ∀ b, b < N → a ≠ b → (T a).2.1 ≠ (T b).2.1) (hG : GS D cy A s) (hM : MS D cy ad A H0 z σ H locs) (k : Nat) (e1 : pI σ ci k v x = some τ) (hci : ci < 10) (hc : vwCl[ci]? = some (C, T, N)) (hN : N = (sg ci).length) (hkN : k < N) (ht : (sg ci).getD k 0 = 0) (hlink : (Cond.fieldLink own index ref (T k).2.1 (T k).2.2.1).before args s = true) (hsame : ∀ x, s.fieldFound? (T k).1 (T k).2.1 (T k).2.2.1 = some x → s.fieldFound? ref (T k).2.1 (T k).2.2.1 = some x) (hfin : (T k).2.2.2 = false) (hd : parseFieldDescriptor (T k).2.2.1 = some .int) (hdg : decode cc pc = .ok (.putfield index, 3))
    (kk : ∀ (H : Heap) (locs : List Loc), MS D cy ad A H0 z τ H locs → W p l e R s m args below meth c H locs cells slots Q (F0 m (pc + 3) ls rest)) : W p l e R s m args below meth c H locs cells slots Q (F0 m pc ls (.int x :: va_rf (Option.map ad v) :: rest)) := by
  obtain ⟨b, rfl, hk, rfl⟩ := pI_some e1
  exact m_put (σ' := sI σ b k x) hC hin ty0 hty hnm hG.1 hM hk hci hc hN k hkN hlink hsame hfin hd rfl rfl rfl rfl (fun a ha => cellOf_sI ha) (fs_sI (by omega) ht) hdg kk
theorem g_pJ {nL : Nat} {own ref C : String} {T : u_T} {N ci index : Nat} {v : Option Nat} {x : Int64} {τ : Mem} (hC : CallFix p m c cc nL s args WALL own) (hin : ∀ w ∈ u_ws C T N, w ∈ WALL) (ty0 : Nat → FieldType) (hty : ∀ k, k < N → parseFieldDescriptor (T k).2.2.1 = some (ty0 k)) (hnm : ∀ a, a < N → ∀ b, b < N → a ≠ b → (T a).2.1 ≠ (T b).2.1) (hG : GS D cy A s) (hM : MS D cy ad A H0 z σ H locs) (k : Nat) (e1 : pJ σ ci k v x = some τ) (hci : ci < 10) (hc : vwCl[ci]? = some (C, T, N)) (hN : N = (sg ci).length) (hkN : k < N) (ht : (sg ci).getD k 0 = 1) (hlink : (Cond.fieldLink own index ref (T k).2.1 (T k).2.2.1).before args s = true) (hsame : ∀ x, s.fieldFound? (T k).1 (T k).2.1 (T k).2.2.1 = some x → s.fieldFound? ref (T k).2.1 (T k).2.2.1 = some x) (hfin : (T k).2.2.2 = false) (hd : parseFieldDescriptor (T k).2.2.1 = some .long) (hdg : decode cc pc = .ok (.putfield index, 3))
    (kk : ∀ (H : Heap) (locs : List Loc), MS D cy ad A H0 z τ H locs → W p l e R s m args below meth c H locs cells slots Q (F0 m (pc + 3) ls rest)) : W p l e R s m args below meth c H locs cells slots Q (F0 m pc ls (.long x :: va_rf (Option.map ad v) :: rest)) := by
  obtain ⟨b, rfl, hk, rfl⟩ := pJ_some e1
  exact m_put (σ' := sJ σ b k x) hC hin ty0 hty hnm hG.1 hM hk hci hc hN k hkN hlink hsame hfin hd rfl rfl rfl rfl (fun a ha => cellOf_sJ ha) (fs_sJ (by omega) ht) hdg kk
theorem g_pR {nL : Nat} {own ref C : String} {T : u_T} {N ci index : Nat} {v x : Option Nat} {τ : Mem} {ty : FieldType} (hC : CallFix p m c cc nL s args WALL own) (hin : ∀ w ∈ u_ws C T N, w ∈ WALL) (ty0 : Nat → FieldType) (hty : ∀ k, k < N → parseFieldDescriptor (T k).2.2.1 = some (ty0 k)) (hnm : ∀ a, a < N → ∀ b, b < N → a ≠ b → (T a).2.1 ≠ (T b).2.1) (hG : GS D cy A s) (hM : MS D cy ad A H0 z σ H locs) (k : Nat) (e1 : pR σ ci k v x = some τ) (hci : ci < 10) (hc : vwCl[ci]? = some (C, T, N)) (hN : N = (sg ci).length) (hkN : k < N) (ht : (sg ci).getD k 0 = 2) (hlink : (Cond.fieldLink own index ref (T k).2.1 (T k).2.2.1).before args s = true) (hsame : ∀ x, s.fieldFound? (T k).1 (T k).2.1 (T k).2.2.1 = some x → s.fieldFound? ref (T k).2.1 (T k).2.2.1 = some x) (hfin : (T k).2.2.2 = false) (hd : parseFieldDescriptor (T k).2.2.1 = some ty) (hn : ∀ r : Option Nat, narrow ty (va_rf r) = va_rf r ∧ fits ty (va_rf r) = true) (hdg : decode cc pc = .ok (.putfield index, 3))
    (kk : ∀ (H : Heap) (locs : List Loc), MS D cy ad A H0 z τ H locs → W p l e R s m args below meth c H locs cells slots Q (F0 m (pc + 3) ls rest)) : W p l e R s m args below meth c H locs cells slots Q (F0 m pc ls (va_rf (Option.map ad x) :: va_rf (Option.map ad v) :: rest)) := by
  obtain ⟨b, rfl, hk, rfl⟩ := pR_some e1
  exact m_put (σ' := sR σ b k x) hC hin ty0 hty hnm hG.1 hM hk hci hc hN k hkN hlink hsame hfin hd (hn _).1 (hn _).2 rfl rfl (fun a ha => cellOf_sR ha) (fs_sR (by omega) ht) hdg kk
theorem gN_fI {nL : Nat} {own ref C host : String} {T : u_T} {N ci index : Nat} {v : Option Nat} {x : Int32} (hC : CallFix p m c cc nL s args WALL own) (hin : ∀ w ∈ u_ws C T N, w ∈ WALL) (hG : GS D cy A s) (hM : MS D cy ad A H0 z σ H locs) (k : Nat) (e1 : fI σ ci k v = some x) (hci : ci < 10) (hc : vwCl[ci]? = some (C, T, N)) (hN : N = (sg ci).length) (hkN : k < N) (ht : (sg ci).getD k 0 = 0) (hlink : va_Nw (Cond.fieldLinkNest own index ref (T k).2.1 (T k).2.2.1 host) s) (hsame : ∀ x, s.fieldFound? (T k).1 (T k).2.1 (T k).2.2.1 = some x → s.fieldFound? ref (T k).2.1 (T k).2.2.1 = some x) (hdg : decode cc pc = .ok (.getfield index, 3))
    (kk : W p l e R s m args below meth c H locs cells slots Q (F0 m (pc + 3) ls (.int x :: rest))) : W p l e R s m args below meth c H locs cells slots Q (F0 m pc ls (va_rf (Option.map ad v) :: rest)) := by
  obtain ⟨b, rfl, hk, rfl⟩ := fI_some e1
  refine m_getN hC hin hG.1 hM hk hci hc hN k hkN hlink hsame hdg ?_
  rw [ht]
  exact kk
theorem gN_fJ {nL : Nat} {own ref C host : String} {T : u_T} {N ci index : Nat} {v : Option Nat} {x : Int64} (hC : CallFix p m c cc nL s args WALL own) (hin : ∀ w ∈ u_ws C T N, w ∈ WALL) (hG : GS D cy A s) (hM : MS D cy ad A H0 z σ H locs) (k : Nat) (e1 : fJ σ ci k v = some x) (hci : ci < 10) (hc : vwCl[ci]? = some (C, T, N)) (hN : N = (sg ci).length) (hkN : k < N) (ht : (sg ci).getD k 0 = 1) (hlink : va_Nw (Cond.fieldLinkNest own index ref (T k).2.1 (T k).2.2.1 host) s) (hsame : ∀ x, s.fieldFound? (T k).1 (T k).2.1 (T k).2.2.1 = some x → s.fieldFound? ref (T k).2.1 (T k).2.2.1 = some x) (hdg : decode cc pc = .ok (.getfield index, 3))
    (kk : W p l e R s m args below meth c H locs cells slots Q (F0 m (pc + 3) ls (.long x :: rest))) : W p l e R s m args below meth c H locs cells slots Q (F0 m pc ls (va_rf (Option.map ad v) :: rest)) := by
  obtain ⟨b, rfl, hk, rfl⟩ := fJ_some e1
  refine m_getN hC hin hG.1 hM hk hci hc hN k hkN hlink hsame hdg ?_
  rw [ht]
  exact kk
theorem gN_fR {nL : Nat} {own ref C host : String} {T : u_T} {N ci index : Nat} {v : Option Nat} {x : Option Nat} (hC : CallFix p m c cc nL s args WALL own) (hin : ∀ w ∈ u_ws C T N, w ∈ WALL) (hG : GS D cy A s) (hM : MS D cy ad A H0 z σ H locs) (k : Nat) (e1 : fR σ ci k v = some x) (hci : ci < 10) (hc : vwCl[ci]? = some (C, T, N)) (hN : N = (sg ci).length) (hkN : k < N) (ht : (sg ci).getD k 0 = 2) (hlink : va_Nw (Cond.fieldLinkNest own index ref (T k).2.1 (T k).2.2.1 host) s) (hsame : ∀ x, s.fieldFound? (T k).1 (T k).2.1 (T k).2.2.1 = some x → s.fieldFound? ref (T k).2.1 (T k).2.2.1 = some x) (hdg : decode cc pc = .ok (.getfield index, 3))
    (kk : W p l e R s m args below meth c H locs cells slots Q (F0 m (pc + 3) ls (va_rf (Option.map ad x) :: rest))) : W p l e R s m args below meth c H locs cells slots Q (F0 m pc ls (va_rf (Option.map ad v) :: rest)) := by
  obtain ⟨b, rfl, hk, rfl⟩ := fR_some e1
  refine m_getN hC hin hG.1 hM hk hci hc hN k hkN hlink hsame hdg ?_
  rw [ht]
  exact kk
theorem gN_pI {nL : Nat} {own ref C host : String} {T : u_T} {N ci index : Nat} {v : Option Nat} {x : Int32} {τ : Mem} (hC : CallFix p m c cc nL s args WALL own) (hin : ∀ w ∈ u_ws C T N, w ∈ WALL) (ty0 : Nat → FieldType) (hty : ∀ k, k < N → parseFieldDescriptor (T k).2.2.1 = some (ty0 k)) (hnm : ∀ a, a < N → ∀ b, b < N → a ≠ b → (T a).2.1 ≠ (T b).2.1) (hG : GS D cy A s) (hM : MS D cy ad A H0 z σ H locs) (k : Nat) (e1 : pI σ ci k v x = some τ) (hci : ci < 10) (hc : vwCl[ci]? = some (C, T, N)) (hN : N = (sg ci).length) (hkN : k < N) (ht : (sg ci).getD k 0 = 0) (hlink : va_Nw (Cond.fieldLinkNest own index ref (T k).2.1 (T k).2.2.1 host) s) (hsame : ∀ x, s.fieldFound? (T k).1 (T k).2.1 (T k).2.2.1 = some x → s.fieldFound? ref (T k).2.1 (T k).2.2.1 = some x) (hfin : (T k).2.2.2 = false) (hd : parseFieldDescriptor (T k).2.2.1 = some .int) (hdg : decode cc pc = .ok (.putfield index, 3))
    (kk : ∀ (H : Heap) (locs : List Loc), MS D cy ad A H0 z τ H locs → W p l e R s m args below meth c H locs cells slots Q (F0 m (pc + 3) ls rest)) : W p l e R s m args below meth c H locs cells slots Q (F0 m pc ls (.int x :: va_rf (Option.map ad v) :: rest)) := by
  obtain ⟨b, rfl, hk, rfl⟩ := pI_some e1
  exact m_putN (σ' := sI σ b k x) hC hin ty0 hty hnm hG.1 hM hk hci hc hN k hkN hlink hsame hfin hd rfl rfl rfl rfl (fun a ha => cellOf_sI ha) (fs_sI (by omega) ht) hdg kk
theorem gN_pJ {nL : Nat} {own ref C host : String} {T : u_T} {N ci index : Nat} {v : Option Nat} {x : Int64} {τ : Mem} (hC : CallFix p m c cc nL s args WALL own) (hin : ∀ w ∈ u_ws C T N, w ∈ WALL) (ty0 : Nat → FieldType) (hty : ∀ k, k < N → parseFieldDescriptor (T k).2.2.1 = some (ty0 k)) (hnm : ∀ a, a < N → ∀ b, b < N → a ≠ b → (T a).2.1 ≠ (T b).2.1) (hG : GS D cy A s) (hM : MS D cy ad A H0 z σ H locs) (k : Nat) (e1 : pJ σ ci k v x = some τ) (hci : ci < 10) (hc : vwCl[ci]? = some (C, T, N)) (hN : N = (sg ci).length) (hkN : k < N) (ht : (sg ci).getD k 0 = 1) (hlink : va_Nw (Cond.fieldLinkNest own index ref (T k).2.1 (T k).2.2.1 host) s) (hsame : ∀ x, s.fieldFound? (T k).1 (T k).2.1 (T k).2.2.1 = some x → s.fieldFound? ref (T k).2.1 (T k).2.2.1 = some x) (hfin : (T k).2.2.2 = false) (hd : parseFieldDescriptor (T k).2.2.1 = some .long) (hdg : decode cc pc = .ok (.putfield index, 3))
    (kk : ∀ (H : Heap) (locs : List Loc), MS D cy ad A H0 z τ H locs → W p l e R s m args below meth c H locs cells slots Q (F0 m (pc + 3) ls rest)) : W p l e R s m args below meth c H locs cells slots Q (F0 m pc ls (.long x :: va_rf (Option.map ad v) :: rest)) := by
  obtain ⟨b, rfl, hk, rfl⟩ := pJ_some e1
  exact m_putN (σ' := sJ σ b k x) hC hin ty0 hty hnm hG.1 hM hk hci hc hN k hkN hlink hsame hfin hd rfl rfl rfl rfl (fun a ha => cellOf_sJ ha) (fs_sJ (by omega) ht) hdg kk
theorem gN_pR {nL : Nat} {own ref C host : String} {T : u_T} {N ci index : Nat} {v x : Option Nat} {τ : Mem} {ty : FieldType} (hC : CallFix p m c cc nL s args WALL own) (hin : ∀ w ∈ u_ws C T N, w ∈ WALL) (ty0 : Nat → FieldType) (hty : ∀ k, k < N → parseFieldDescriptor (T k).2.2.1 = some (ty0 k)) (hnm : ∀ a, a < N → ∀ b, b < N → a ≠ b → (T a).2.1 ≠ (T b).2.1) (hG : GS D cy A s) (hM : MS D cy ad A H0 z σ H locs) (k : Nat) (e1 : pR σ ci k v x = some τ) (hci : ci < 10) (hc : vwCl[ci]? = some (C, T, N)) (hN : N = (sg ci).length) (hkN : k < N) (ht : (sg ci).getD k 0 = 2) (hlink : va_Nw (Cond.fieldLinkNest own index ref (T k).2.1 (T k).2.2.1 host) s) (hsame : ∀ x, s.fieldFound? (T k).1 (T k).2.1 (T k).2.2.1 = some x → s.fieldFound? ref (T k).2.1 (T k).2.2.1 = some x) (hfin : (T k).2.2.2 = false) (hd : parseFieldDescriptor (T k).2.2.1 = some ty) (hn : ∀ r : Option Nat, narrow ty (va_rf r) = va_rf r ∧ fits ty (va_rf r) = true) (hdg : decode cc pc = .ok (.putfield index, 3))
    (kk : ∀ (H : Heap) (locs : List Loc), MS D cy ad A H0 z τ H locs → W p l e R s m args below meth c H locs cells slots Q (F0 m (pc + 3) ls rest)) : W p l e R s m args below meth c H locs cells slots Q (F0 m pc ls (va_rf (Option.map ad x) :: va_rf (Option.map ad v) :: rest)) := by
  obtain ⟨b, rfl, hk, rfl⟩ := pR_some e1
  exact m_putN (σ' := sR σ b k x) hC hin ty0 hty hnm hG.1 hM hk hci hc hN k hkN hlink hsame hfin hd (hn _).1 (hn _).2 rfl rfl (fun a ha => cellOf_sR ha) (fs_sR (by omega) ht) hdg kk
theorem g_iald (hx : p.tables.exec = Jvm.exec) (hb : c.code = cc) (hG : GS D cy A s) (hM : MS D cy ad A H0 z σ H locs) {v : Option Nat} {i : Int32} {x : Int32} (e1 : aI σ 11 v i = some x) (hdg : decode cc pc = .ok (.iaload, 1)) (kk : W p l e R s m args below meth c H locs cells slots Q (F0 m (pc + 1) ls (.int x :: rest))) : W p l e R s m args below meth c H locs cells slots Q (F0 m pc ls (.int i :: va_rf (Option.map ad v) :: rest)) := by
  obtain ⟨b, rfl, hk, hi, rfl⟩ := aI_some e1
  exact m_iald hx hb hG.1 hM hk hi hdg kk
theorem g_bald (hx : p.tables.exec = Jvm.exec) (hb : c.code = cc) (hG : GS D cy A s) (hM : MS D cy ad A H0 z σ H locs) {v : Option Nat} {i : Int32} {x : Int32} (e1 : aI σ 10 v i = some x) (hdg : decode cc pc = .ok (.baload, 1)) (kk : W p l e R s m args below meth c H locs cells slots Q (F0 m (pc + 1) ls (.int x :: rest))) : W p l e R s m args below meth c H locs cells slots Q (F0 m pc ls (.int i :: va_rf (Option.map ad v) :: rest)) := by
  obtain ⟨b, rfl, hk, hi, rfl⟩ := aI_some e1
  exact m_bald hx hb hG.1 hM hk hi hdg kk
theorem g_zald (hx : p.tables.exec = Jvm.exec) (hb : c.code = cc) (hG : GS D cy A s) (hM : MS D cy ad A H0 z σ H locs) {v : Option Nat} {i : Int32} {x : Int32} (e1 : aI σ 13 v i = some x) (hdg : decode cc pc = .ok (.baload, 1)) (kk : W p l e R s m args below meth c H locs cells slots Q (F0 m (pc + 1) ls (.int x :: rest))) : W p l e R s m args below meth c H locs cells slots Q (F0 m pc ls (.int i :: va_rf (Option.map ad v) :: rest)) := by
  obtain ⟨b, rfl, hk, hi, rfl⟩ := aI_some e1
  exact m_zald hx hb hG.1 hM hk hi hdg kk
theorem g_lald (hx : p.tables.exec = Jvm.exec) (hb : c.code = cc) (hG : GS D cy A s) (hM : MS D cy ad A H0 z σ H locs) {v : Option Nat} {i : Int32} {x : Int64} (e1 : aJ σ 12 v i = some x) (hdg : decode cc pc = .ok (.laload, 1)) (kk : W p l e R s m args below meth c H locs cells slots Q (F0 m (pc + 1) ls (.long x :: rest))) : W p l e R s m args below meth c H locs cells slots Q (F0 m pc ls (.int i :: va_rf (Option.map ad v) :: rest)) := by
  obtain ⟨b, rfl, hk, hi, rfl⟩ := aJ_some e1
  exact m_lald hx hb hG.1 hM hk hi hdg kk
theorem g_aald14 (hx : p.tables.exec = Jvm.exec) (hb : c.code = cc) (hG : GS D cy A s) (hM : MS D cy ad A H0 z σ H locs) {v x : Option Nat} {i : Int32} (e1 : aR σ 14 v i = some x) (hdg : decode cc pc = .ok (.aaload, 1)) (kk : W p l e R s m args below meth c H locs cells slots Q (F0 m (pc + 1) ls (va_rf (Option.map ad x) :: rest))) : W p l e R s m args below meth c H locs cells slots Q (F0 m pc ls (.int i :: va_rf (Option.map ad v) :: rest)) := by
  obtain ⟨b, rfl, hk, hi, rfl⟩ := aR_some e1
  exact m_aald (kR := 14) (by decide) hx hb hG.1 hM hk hi hdg kk
theorem g_aald15 (hx : p.tables.exec = Jvm.exec) (hb : c.code = cc) (hG : GS D cy A s) (hM : MS D cy ad A H0 z σ H locs) {v x : Option Nat} {i : Int32} (e1 : aR σ 15 v i = some x) (hdg : decode cc pc = .ok (.aaload, 1)) (kk : W p l e R s m args below meth c H locs cells slots Q (F0 m (pc + 1) ls (va_rf (Option.map ad x) :: rest))) : W p l e R s m args below meth c H locs cells slots Q (F0 m pc ls (.int i :: va_rf (Option.map ad v) :: rest)) := by
  obtain ⟨b, rfl, hk, hi, rfl⟩ := aR_some e1
  exact m_aald (kR := 15) (by decide) hx hb hG.1 hM hk hi hdg kk
theorem g_iast (hx : p.tables.exec = Jvm.exec) (hb : c.code = cc) (hG : GS D cy A s) (hM : MS D cy ad A H0 z σ H locs) {v : Option Nat} {i : Int32} {x : Int32} {τ : Mem} (e1 : wI σ 11 v i x = some τ) (hdg : decode cc pc = .ok (.iastore, 1)) (kk : ∀ (H : Heap) (locs : List Loc), MS D cy ad A H0 z τ H locs → W p l e R s m args below meth c H locs cells slots Q (F0 m (pc + 1) ls rest)) : W p l e R s m args below meth c H locs cells slots Q (F0 m pc ls (.int x :: .int i :: va_rf (Option.map ad v) :: rest)) := by
  obtain ⟨b, rfl, hk, hi, rfl⟩ := wI_some e1
  exact m_iast hx hb hG.1 hM hk hi hdg kk
theorem g_bast (hx : p.tables.exec = Jvm.exec) (hb : c.code = cc) (hG : GS D cy A s) (hM : MS D cy ad A H0 z σ H locs) {v : Option Nat} {i : Int32} {x : Int32} {τ : Mem} (e1 : wI σ 10 v i (vp_nar .byte x) = some τ) (hdg : decode cc pc = .ok (.bastore, 1)) (kk : ∀ (H : Heap) (locs : List Loc), MS D cy ad A H0 z τ H locs → W p l e R s m args below meth c H locs cells slots Q (F0 m (pc + 1) ls rest)) : W p l e R s m args below meth c H locs cells slots Q (F0 m pc ls (.int x :: .int i :: va_rf (Option.map ad v) :: rest)) := by
  obtain ⟨b, rfl, hk, hi, rfl⟩ := wI_some e1
  exact m_bast hx hb hG.1 hM hk hi hdg kk
theorem g_zast (hx : p.tables.exec = Jvm.exec) (hb : c.code = cc) (hG : GS D cy A s) (hM : MS D cy ad A H0 z σ H locs) {v : Option Nat} {i : Int32} {x : Int32} {τ : Mem} (e1 : wI σ 13 v i (vp_nar .boolean x) = some τ) (hdg : decode cc pc = .ok (.bastore, 1)) (kk : ∀ (H : Heap) (locs : List Loc), MS D cy ad A H0 z τ H locs → W p l e R s m args below meth c H locs cells slots Q (F0 m (pc + 1) ls rest)) : W p l e R s m args below meth c H locs cells slots Q (F0 m pc ls (.int x :: .int i :: va_rf (Option.map ad v) :: rest)) := by
  obtain ⟨b, rfl, hk, hi, rfl⟩ := wI_some e1
  exact m_zast hx hb hG.1 hM hk hi hdg kk
theorem g_last (hx : p.tables.exec = Jvm.exec) (hb : c.code = cc) (hG : GS D cy A s) (hM : MS D cy ad A H0 z σ H locs) {v : Option Nat} {i : Int32} {x : Int64} {τ : Mem} (e1 : wJ σ 12 v i x = some τ) (hdg : decode cc pc = .ok (.lastore, 1)) (kk : ∀ (H : Heap) (locs : List Loc), MS D cy ad A H0 z τ H locs → W p l e R s m args below meth c H locs cells slots Q (F0 m (pc + 1) ls rest)) : W p l e R s m args below meth c H locs cells slots Q (F0 m pc ls (.long x :: .int i :: va_rf (Option.map ad v) :: rest)) := by
  obtain ⟨b, rfl, hk, hi, rfl⟩ := wJ_some e1
  exact m_last hx hb hG.1 hM hk hi hdg kk
theorem g_alen {kA : Nat} (hkA : kA = 10 ∨ kA = 11 ∨ kA = 13) (hx : p.tables.exec = Jvm.exec) (hb : c.code = cc) (hG : GS D cy A s) (hM : MS D cy ad A H0 z σ H locs) {v : Option Nat} {x : Int32} (e1 : aL σ kA v = some x) (hdg : decode cc pc = .ok (.arraylength, 1)) (kk : W p l e R s m args below meth c H locs cells slots Q (F0 m (pc + 1) ls (.int x :: rest))) : W p l e R s m args below meth c H locs cells slots Q (F0 m pc ls (va_rf (Option.map ad v) :: rest)) := by
  obtain ⟨b, rfl, hk, rfl⟩ := aL_some e1
  exact m_alen hkA hx hb hG.1 hM hk hdg kk
end RX
section RC
variable {p : Program} {l : Launch} {e : Env} {R : Room} {s : State} {m : MethodId} {args : Array Value} {below : List Frame} {meth : Method} {c : Code} {H : Heap} {locs : List Loc} {Q : State → Prop}
variable {cc : ByteArray} {pc : Nat} {ls : Array Slot} {rest : List Value} {D : va_G} {cy : Nat → ClassId} {ad : Nat → Nat} {A : Nat → Prop} {z : Nat} {σ : Mem}
theorem callV_I {own : String} {index nL n d : Nat} {y : MethodName} {cb : ByteArray} {ret : Option FieldType} {As : List Value} {ra : Int32} {τ : Mem} {st : List Value} {v : Option Nat} {b ci N : Nat} {C : String} {T : u_T} (ek : kT σ ci v = some b) (hci : ci < 10) (hcl : vwCl[ci]? = some (C, T, N)) (hl : Cond.methodLink own index y ∈ WALL) (hin : Cond.instanceMethod y ∈ WALL) (hse : Cond.selects C y y ∈ WALL) (hyC : y.cls = C) (hini : Cond.initialized y.cls ∈ WALL) (hcd : Cond.code y cb n ret ∈ WALL) (hd : y.cls ≠ "java/lang/invoke/MethodHandle" ∧ y.cls ≠ "java/lang/invoke/VarHandle" ∧ (parseMethodDescriptor y.desc).map (fun d => d.parameters.length) = some As.length) (hC : CallFix p m c cc nL s args WALL own) (hG : GS D cy A s) (hM : MS D cy ad A s.heap z σ H locs) (hct : CtI l y cb n ret d (.ref (ad b) :: As) D cy ad A z σ ra τ) (hR : d + 1 ≤ R.frames ∧ 8 + (n + 11) + 36 * d ≤ R.locals) (hsz : ls.size = nL) (hW : (rest.map fun v => v.category).sum ≤ 8) (hdg : decode cc pc = .ok (.invokevirtual index, 3)) (hst0 : st = (As.reverse ++ va_rf (Option.map ad v) :: rest))
    (kk : ∀ (H : Heap) (locs : List Loc), MS D cy ad A s.heap z τ H locs → W p l e R s m args below meth c H locs 0 0 Q (F0 m (pc + 3) ls (.int ra :: rest))) : W p l e R s m args below meth c H locs 0 0 Q (F0 m pc ls st) := by
  subst hst0
  obtain ⟨rfl, hk⟩ := kT_some ek
  obtain ⟨h1, h2⟩ := kd_lt hk (by omega)
  refine va_calli (va_runV (As := As) (rest := rest) hC hct (cwV As.length hC.2.2.2.2 (WALL_cons hl (WALL_cons hin (WALL_cons hse (WALL_cons (hyC ▸ hini) (WALL_code hcd))))) rfl rfl rfl ⟨hyC, hd⟩ hR) ⟨Pr.blind, va_recv hG.1 hM.1 hcl (by rw [MM_get cy ad h1, cellOf_obj cy ad h2 hci]), fun U hU hW => ⟨rfl, hM.pre hG U hU hW⟩⟩ rfl rfl hsz rfl (lv_room hW) hdg ⟨Nat.zero_le _, Nat.zero_le _⟩) hM.2.2.1 (fun q _ h => h) (fun q h => h) (fun r u t H1 locs1 ht hvm hw hB hz1 hk1 hS => ?_)
  obtain ⟨rfl, rfl⟩ := hw
  exact kk H1 locs1 (MS.post hB ht hS)
theorem callV_L {own : String} {index nL n d : Nat} {y : MethodName} {cb : ByteArray} {ret : Option FieldType} {As : List Value} {ra : Int64} {τ : Mem} {st : List Value} {v : Option Nat} {b ci N : Nat} {C : String} {T : u_T} (ek : kT σ ci v = some b) (hci : ci < 10) (hcl : vwCl[ci]? = some (C, T, N)) (hl : Cond.methodLink own index y ∈ WALL) (hin : Cond.instanceMethod y ∈ WALL) (hse : Cond.selects C y y ∈ WALL) (hyC : y.cls = C) (hini : Cond.initialized y.cls ∈ WALL) (hcd : Cond.code y cb n ret ∈ WALL) (hd : y.cls ≠ "java/lang/invoke/MethodHandle" ∧ y.cls ≠ "java/lang/invoke/VarHandle" ∧ (parseMethodDescriptor y.desc).map (fun d => d.parameters.length) = some As.length) (hC : CallFix p m c cc nL s args WALL own) (hG : GS D cy A s) (hM : MS D cy ad A s.heap z σ H locs) (hct : CtL l y cb n ret d (.ref (ad b) :: As) D cy ad A z σ ra τ) (hR : d + 1 ≤ R.frames ∧ 8 + (n + 11) + 36 * d ≤ R.locals) (hsz : ls.size = nL) (hW : (rest.map fun v => v.category).sum ≤ 8) (hdg : decode cc pc = .ok (.invokevirtual index, 3)) (hst0 : st = (As.reverse ++ va_rf (Option.map ad v) :: rest))
    (kk : ∀ (H : Heap) (locs : List Loc), MS D cy ad A s.heap z τ H locs → W p l e R s m args below meth c H locs 0 0 Q (F0 m (pc + 3) ls (.long ra :: rest))) : W p l e R s m args below meth c H locs 0 0 Q (F0 m pc ls st) := by
  subst hst0
  obtain ⟨rfl, hk⟩ := kT_some ek
  obtain ⟨h1, h2⟩ := kd_lt hk (by omega)
  refine va_calll (va_runV (As := As) (rest := rest) hC hct (cwV As.length hC.2.2.2.2 (WALL_cons hl (WALL_cons hin (WALL_cons hse (WALL_cons (hyC ▸ hini) (WALL_code hcd))))) rfl rfl rfl ⟨hyC, hd⟩ hR) ⟨Pr.blind, va_recv hG.1 hM.1 hcl (by rw [MM_get cy ad h1, cellOf_obj cy ad h2 hci]), fun U hU hW => ⟨rfl, hM.pre hG U hU hW⟩⟩ rfl rfl hsz rfl (lv_room hW) hdg ⟨Nat.zero_le _, Nat.zero_le _⟩) hM.2.2.1 (fun q _ h => h) (fun q h => h) (fun r u t H1 locs1 ht hvm hw hB hz1 hk1 hS => ?_)
  obtain ⟨rfl, rfl⟩ := hw
  exact kk H1 locs1 (MS.post hB ht hS)
theorem callV_V {own : String} {index nL n d : Nat} {y : MethodName} {cb : ByteArray} {ret : Option FieldType} {As : List Value} {ra : Unit} {τ : Mem} {st : List Value} {v : Option Nat} {b ci N : Nat} {C : String} {T : u_T} (ek : kT σ ci v = some b) (hci : ci < 10) (hcl : vwCl[ci]? = some (C, T, N)) (hl : Cond.methodLink own index y ∈ WALL) (hin : Cond.instanceMethod y ∈ WALL) (hse : Cond.selects C y y ∈ WALL) (hyC : y.cls = C) (hini : Cond.initialized y.cls ∈ WALL) (hcd : Cond.code y cb n ret ∈ WALL) (hd : y.cls ≠ "java/lang/invoke/MethodHandle" ∧ y.cls ≠ "java/lang/invoke/VarHandle" ∧ (parseMethodDescriptor y.desc).map (fun d => d.parameters.length) = some As.length) (hC : CallFix p m c cc nL s args WALL own) (hG : GS D cy A s) (hM : MS D cy ad A s.heap z σ H locs) (hct : CtV l y cb n ret d (.ref (ad b) :: As) D cy ad A z σ ra τ) (hR : d + 1 ≤ R.frames ∧ 8 + (n + 11) + 36 * d ≤ R.locals) (hsz : ls.size = nL) (hW : (rest.map fun v => v.category).sum ≤ 8) (hdg : decode cc pc = .ok (.invokevirtual index, 3)) (hst0 : st = (As.reverse ++ va_rf (Option.map ad v) :: rest))
    (kk : ∀ (H : Heap) (locs : List Loc), MS D cy ad A s.heap z τ H locs → W p l e R s m args below meth c H locs 0 0 Q (F0 m (pc + 3) ls (rest))) : W p l e R s m args below meth c H locs 0 0 Q (F0 m pc ls st) := by
  subst hst0
  obtain ⟨rfl, hk⟩ := kT_some ek
  obtain ⟨h1, h2⟩ := kd_lt hk (by omega)
  refine va_callv (va_runV (As := As) (rest := rest) hC hct (cwV As.length hC.2.2.2.2 (WALL_cons hl (WALL_cons hin (WALL_cons hse (WALL_cons (hyC ▸ hini) (WALL_code hcd))))) rfl rfl rfl ⟨hyC, hd⟩ hR) ⟨Pr.blind, va_recv hG.1 hM.1 hcl (by rw [MM_get cy ad h1, cellOf_obj cy ad h2 hci]), fun U hU hW => ⟨rfl, hM.pre hG U hU hW⟩⟩ rfl rfl hsz rfl (lv_room hW) hdg ⟨Nat.zero_le _, Nat.zero_le _⟩) hM.2.2.1 (fun q _ h => h) (fun q h => h) (fun u t H1 locs1 ht hvm hw hB hz1 hk1 hS => ?_)
  subst hw
  exact kk H1 locs1 (MS.post hB ht hS)
theorem callV_R {own : String} {index nL n d : Nat} {y : MethodName} {cb : ByteArray} {ret : Option FieldType} {As : List Value} {ra : Option Nat} {τ : Mem} {st : List Value} {v : Option Nat} {b ci N : Nat} {C : String} {T : u_T} (ek : kT σ ci v = some b) (hci : ci < 10) (hcl : vwCl[ci]? = some (C, T, N)) (hl : Cond.methodLink own index y ∈ WALL) (hin : Cond.instanceMethod y ∈ WALL) (hse : Cond.selects C y y ∈ WALL) (hyC : y.cls = C) (hini : Cond.initialized y.cls ∈ WALL) (hcd : Cond.code y cb n ret ∈ WALL) (hd : y.cls ≠ "java/lang/invoke/MethodHandle" ∧ y.cls ≠ "java/lang/invoke/VarHandle" ∧ (parseMethodDescriptor y.desc).map (fun d => d.parameters.length) = some As.length) (hC : CallFix p m c cc nL s args WALL own) (hG : GS D cy A s) (hM : MS D cy ad A s.heap z σ H locs) (hct : CtR l y cb n ret d (.ref (ad b) :: As) D cy ad A z σ ra τ) (hR : d + 1 ≤ R.frames ∧ 8 + (n + 11) + 36 * d ≤ R.locals) (hsz : ls.size = nL) (hW : (rest.map fun v => v.category).sum ≤ 8) (hdg : decode cc pc = .ok (.invokevirtual index, 3)) (hst0 : st = (As.reverse ++ va_rf (Option.map ad v) :: rest))
    (kk : ∀ (H : Heap) (locs : List Loc), MS D cy ad A s.heap z τ H locs → W p l e R s m args below meth c H locs 0 0 Q (F0 m (pc + 3) ls (va_rf (Option.map ad ra) :: rest))) : W p l e R s m args below meth c H locs 0 0 Q (F0 m pc ls st) := by
  subst hst0
  obtain ⟨rfl, hk⟩ := kT_some ek
  obtain ⟨h1, h2⟩ := kd_lt hk (by omega)
  refine va_callq (va_runV (As := As) (rest := rest) hC hct (cwV As.length hC.2.2.2.2 (WALL_cons hl (WALL_cons hin (WALL_cons hse (WALL_cons (hyC ▸ hini) (WALL_code hcd))))) rfl rfl rfl ⟨hyC, hd⟩ hR) ⟨Pr.blind, va_recv hG.1 hM.1 hcl (by rw [MM_get cy ad h1, cellOf_obj cy ad h2 hci]), fun U hU hW => ⟨rfl, hM.pre hG U hU hW⟩⟩ rfl rfl hsz rfl (lv_room hW) hdg ⟨Nat.zero_le _, Nat.zero_le _⟩) hM.2.2.1 (fun q _ h => h) (fun q h => h) (fun r u t H1 locs1 ht hvm hw hB hz1 hk1 hS => ?_)
  obtain ⟨rfl, rfl⟩ := hw
  exact kk H1 locs1 (MS.post hB ht hS)
theorem callVN_I {own : String} {index nL n d : Nat} {y : MethodName} {cb : ByteArray} {ret : Option FieldType} {As : List Value} {ra : Int32} {τ : Mem} {st : List Value} {v : Option Nat} {b ci N : Nat} {C : String} {T : u_T} (ek : kT σ ci v = some b) (hci : ci < 10) (hcl : vwCl[ci]? = some (C, T, N)) {host : String} (hl : Cond.methodLinkNest own index y host ∈ NWL) (hin : Cond.instanceMethod y ∈ WALL) (hse : Cond.selects C y y ∈ WALL) (hyC : y.cls = C) (hini : Cond.initialized y.cls ∈ WALL) (hcd : Cond.code y cb n ret ∈ WALL) (hd : y.cls ≠ "java/lang/invoke/MethodHandle" ∧ y.cls ≠ "java/lang/invoke/VarHandle" ∧ (parseMethodDescriptor y.desc).map (fun d => d.parameters.length) = some As.length) (hC : CallFix p m c cc nL s args WALL own) (hG : GS D cy A s) (hM : MS D cy ad A s.heap z σ H locs) (hct : CtI l y cb n ret d (.ref (ad b) :: As) D cy ad A z σ ra τ) (hR : d + 1 ≤ R.frames ∧ 8 + (n + 11) + 36 * d ≤ R.locals) (hsz : ls.size = nL) (hW : (rest.map fun v => v.category).sum ≤ 8) (hdg : decode cc pc = .ok (.invokevirtual index, 3)) (hst0 : st = (As.reverse ++ va_rf (Option.map ad v) :: rest))
    (kk : ∀ (H : Heap) (locs : List Loc), MS D cy ad A s.heap z τ H locs → W p l e R s m args below meth c H locs 0 0 Q (F0 m (pc + 3) ls (.int ra :: rest))) : W p l e R s m args below meth c H locs 0 0 Q (F0 m pc ls st) := by
  subst hst0
  obtain ⟨rfl, hk⟩ := kT_some ek
  obtain ⟨h1, h2⟩ := kd_lt hk (by omega)
  refine va_calli (va_runVN (As := As) (rest := rest) hC hct ⟨va_cnB As.length hC.2.2.2.2 (WALL_code hcd) rfl rfl rfl (hG.2.1 _ hl) (hC.2.2.2.2 _ hini) hd hR, hC.2.2.2.2 _ hin, hC.2.2.2.2 _ hse⟩ ⟨Pr.blind, va_recv hG.1 hM.1 hcl (by rw [MM_get cy ad h1, cellOf_obj cy ad h2 hci]), fun U hU hW => ⟨rfl, hM.pre hG U hU hW⟩⟩ rfl rfl hsz rfl (lv_room hW) hdg ⟨Nat.zero_le _, Nat.zero_le _⟩) hM.2.2.1 (fun q _ h => h) (fun q h => h) (fun r u t H1 locs1 ht hvm hw hB hz1 hk1 hS => ?_)
  obtain ⟨rfl, rfl⟩ := hw
  exact kk H1 locs1 (MS.post hB ht hS)
theorem callVN_L {own : String} {index nL n d : Nat} {y : MethodName} {cb : ByteArray} {ret : Option FieldType} {As : List Value} {ra : Int64} {τ : Mem} {st : List Value} {v : Option Nat} {b ci N : Nat} {C : String} {T : u_T} (ek : kT σ ci v = some b) (hci : ci < 10) (hcl : vwCl[ci]? = some (C, T, N)) {host : String} (hl : Cond.methodLinkNest own index y host ∈ NWL) (hin : Cond.instanceMethod y ∈ WALL) (hse : Cond.selects C y y ∈ WALL) (hyC : y.cls = C) (hini : Cond.initialized y.cls ∈ WALL) (hcd : Cond.code y cb n ret ∈ WALL) (hd : y.cls ≠ "java/lang/invoke/MethodHandle" ∧ y.cls ≠ "java/lang/invoke/VarHandle" ∧ (parseMethodDescriptor y.desc).map (fun d => d.parameters.length) = some As.length) (hC : CallFix p m c cc nL s args WALL own) (hG : GS D cy A s) (hM : MS D cy ad A s.heap z σ H locs) (hct : CtL l y cb n ret d (.ref (ad b) :: As) D cy ad A z σ ra τ) (hR : d + 1 ≤ R.frames ∧ 8 + (n + 11) + 36 * d ≤ R.locals) (hsz : ls.size = nL) (hW : (rest.map fun v => v.category).sum ≤ 8) (hdg : decode cc pc = .ok (.invokevirtual index, 3)) (hst0 : st = (As.reverse ++ va_rf (Option.map ad v) :: rest))
    (kk : ∀ (H : Heap) (locs : List Loc), MS D cy ad A s.heap z τ H locs → W p l e R s m args below meth c H locs 0 0 Q (F0 m (pc + 3) ls (.long ra :: rest))) : W p l e R s m args below meth c H locs 0 0 Q (F0 m pc ls st) := by
  subst hst0
  obtain ⟨rfl, hk⟩ := kT_some ek
  obtain ⟨h1, h2⟩ := kd_lt hk (by omega)
  refine va_calll (va_runVN (As := As) (rest := rest) hC hct ⟨va_cnB As.length hC.2.2.2.2 (WALL_code hcd) rfl rfl rfl (hG.2.1 _ hl) (hC.2.2.2.2 _ hini) hd hR, hC.2.2.2.2 _ hin, hC.2.2.2.2 _ hse⟩ ⟨Pr.blind, va_recv hG.1 hM.1 hcl (by rw [MM_get cy ad h1, cellOf_obj cy ad h2 hci]), fun U hU hW => ⟨rfl, hM.pre hG U hU hW⟩⟩ rfl rfl hsz rfl (lv_room hW) hdg ⟨Nat.zero_le _, Nat.zero_le _⟩) hM.2.2.1 (fun q _ h => h) (fun q h => h) (fun r u t H1 locs1 ht hvm hw hB hz1 hk1 hS => ?_)
  obtain ⟨rfl, rfl⟩ := hw
  exact kk H1 locs1 (MS.post hB ht hS)
theorem callVN_V {own : String} {index nL n d : Nat} {y : MethodName} {cb : ByteArray} {ret : Option FieldType} {As : List Value} {ra : Unit} {τ : Mem} {st : List Value} {v : Option Nat} {b ci N : Nat} {C : String} {T : u_T} (ek : kT σ ci v = some b) (hci : ci < 10) (hcl : vwCl[ci]? = some (C, T, N)) {host : String} (hl : Cond.methodLinkNest own index y host ∈ NWL) (hin : Cond.instanceMethod y ∈ WALL) (hse : Cond.selects C y y ∈ WALL) (hyC : y.cls = C) (hini : Cond.initialized y.cls ∈ WALL) (hcd : Cond.code y cb n ret ∈ WALL) (hd : y.cls ≠ "java/lang/invoke/MethodHandle" ∧ y.cls ≠ "java/lang/invoke/VarHandle" ∧ (parseMethodDescriptor y.desc).map (fun d => d.parameters.length) = some As.length) (hC : CallFix p m c cc nL s args WALL own) (hG : GS D cy A s) (hM : MS D cy ad A s.heap z σ H locs) (hct : CtV l y cb n ret d (.ref (ad b) :: As) D cy ad A z σ ra τ) (hR : d + 1 ≤ R.frames ∧ 8 + (n + 11) + 36 * d ≤ R.locals) (hsz : ls.size = nL) (hW : (rest.map fun v => v.category).sum ≤ 8) (hdg : decode cc pc = .ok (.invokevirtual index, 3)) (hst0 : st = (As.reverse ++ va_rf (Option.map ad v) :: rest))
    (kk : ∀ (H : Heap) (locs : List Loc), MS D cy ad A s.heap z τ H locs → W p l e R s m args below meth c H locs 0 0 Q (F0 m (pc + 3) ls (rest))) : W p l e R s m args below meth c H locs 0 0 Q (F0 m pc ls st) := by
  subst hst0
  obtain ⟨rfl, hk⟩ := kT_some ek
  obtain ⟨h1, h2⟩ := kd_lt hk (by omega)
  refine va_callv (va_runVN (As := As) (rest := rest) hC hct ⟨va_cnB As.length hC.2.2.2.2 (WALL_code hcd) rfl rfl rfl (hG.2.1 _ hl) (hC.2.2.2.2 _ hini) hd hR, hC.2.2.2.2 _ hin, hC.2.2.2.2 _ hse⟩ ⟨Pr.blind, va_recv hG.1 hM.1 hcl (by rw [MM_get cy ad h1, cellOf_obj cy ad h2 hci]), fun U hU hW => ⟨rfl, hM.pre hG U hU hW⟩⟩ rfl rfl hsz rfl (lv_room hW) hdg ⟨Nat.zero_le _, Nat.zero_le _⟩) hM.2.2.1 (fun q _ h => h) (fun q h => h) (fun u t H1 locs1 ht hvm hw hB hz1 hk1 hS => ?_)
  subst hw
  exact kk H1 locs1 (MS.post hB ht hS)
theorem callVN_R {own : String} {index nL n d : Nat} {y : MethodName} {cb : ByteArray} {ret : Option FieldType} {As : List Value} {ra : Option Nat} {τ : Mem} {st : List Value} {v : Option Nat} {b ci N : Nat} {C : String} {T : u_T} (ek : kT σ ci v = some b) (hci : ci < 10) (hcl : vwCl[ci]? = some (C, T, N)) {host : String} (hl : Cond.methodLinkNest own index y host ∈ NWL) (hin : Cond.instanceMethod y ∈ WALL) (hse : Cond.selects C y y ∈ WALL) (hyC : y.cls = C) (hini : Cond.initialized y.cls ∈ WALL) (hcd : Cond.code y cb n ret ∈ WALL) (hd : y.cls ≠ "java/lang/invoke/MethodHandle" ∧ y.cls ≠ "java/lang/invoke/VarHandle" ∧ (parseMethodDescriptor y.desc).map (fun d => d.parameters.length) = some As.length) (hC : CallFix p m c cc nL s args WALL own) (hG : GS D cy A s) (hM : MS D cy ad A s.heap z σ H locs) (hct : CtR l y cb n ret d (.ref (ad b) :: As) D cy ad A z σ ra τ) (hR : d + 1 ≤ R.frames ∧ 8 + (n + 11) + 36 * d ≤ R.locals) (hsz : ls.size = nL) (hW : (rest.map fun v => v.category).sum ≤ 8) (hdg : decode cc pc = .ok (.invokevirtual index, 3)) (hst0 : st = (As.reverse ++ va_rf (Option.map ad v) :: rest))
    (kk : ∀ (H : Heap) (locs : List Loc), MS D cy ad A s.heap z τ H locs → W p l e R s m args below meth c H locs 0 0 Q (F0 m (pc + 3) ls (va_rf (Option.map ad ra) :: rest))) : W p l e R s m args below meth c H locs 0 0 Q (F0 m pc ls st) := by
  subst hst0
  obtain ⟨rfl, hk⟩ := kT_some ek
  obtain ⟨h1, h2⟩ := kd_lt hk (by omega)
  refine va_callq (va_runVN (As := As) (rest := rest) hC hct ⟨va_cnB As.length hC.2.2.2.2 (WALL_code hcd) rfl rfl rfl (hG.2.1 _ hl) (hC.2.2.2.2 _ hini) hd hR, hC.2.2.2.2 _ hin, hC.2.2.2.2 _ hse⟩ ⟨Pr.blind, va_recv hG.1 hM.1 hcl (by rw [MM_get cy ad h1, cellOf_obj cy ad h2 hci]), fun U hU hW => ⟨rfl, hM.pre hG U hU hW⟩⟩ rfl rfl hsz rfl (lv_room hW) hdg ⟨Nat.zero_le _, Nat.zero_le _⟩) hM.2.2.1 (fun q _ h => h) (fun q h => h) (fun r u t H1 locs1 ht hvm hw hB hz1 hk1 hS => ?_)
  obtain ⟨rfl, rfl⟩ := hw
  exact kk H1 locs1 (MS.post hB ht hS)
theorem callS_I {own : String} {index nL n d : Nat} {y : MethodName} {cb : ByteArray} {ret : Option FieldType} {As : List Value} {ra : Int32} {τ : Mem} {st : List Value} (hl : Cond.methodLink own index y ∈ WALL) (hst : Cond.static y ∈ WALL) (hini : Cond.initialized y.cls ∈ WALL) (hcd : Cond.code y cb n ret ∈ WALL) (hd : y.cls ≠ "java/lang/invoke/MethodHandle" ∧ y.cls ≠ "java/lang/invoke/VarHandle" ∧ (parseMethodDescriptor y.desc).map (fun d => d.parameters.length) = some As.length) (hC : CallFix p m c cc nL s args WALL own) (hG : GS D cy A s) (hM : MS D cy ad A s.heap z σ H locs) (hct : CtI l y cb n ret d As D cy ad A z σ ra τ) (hR : d + 1 ≤ R.frames ∧ 8 + (n + 11) + 36 * d ≤ R.locals) (hsz : ls.size = nL) (hW : (rest.map fun v => v.category).sum ≤ 8) (hdg : decode cc pc = .ok (.invokestatic index, 3)) (hst0 : st = (As.reverse ++ rest))
    (kk : ∀ (H : Heap) (locs : List Loc), MS D cy ad A s.heap z τ H locs → W p l e R s m args below meth c H locs 0 0 Q (F0 m (pc + 3) ls (.int ra :: rest))) : W p l e R s m args below meth c H locs 0 0 Q (F0 m pc ls st) := by
  subst hst0
  refine va_calli (va_runS (As := As) (rest := rest) hC hct (va_cwS As.length hC.2.2.2.2 (WALL_cons hl (WALL_cons hst (WALL_cons hini (WALL_code hcd)))) rfl rfl rfl hd hR) ⟨Pr.blind, fun U hU hW => ⟨rfl, hM.pre hG U hU hW⟩⟩ rfl rfl hsz rfl (lv_room hW) hdg ⟨Nat.zero_le _, Nat.zero_le _⟩) hM.2.2.1 (fun q _ h => h) (fun q h => h) (fun r u t H1 locs1 ht hvm hw hB hz1 hk1 hS => ?_)
  obtain ⟨rfl, rfl⟩ := hw
  exact kk H1 locs1 (MS.post hB ht hS)
theorem callS_L {own : String} {index nL n d : Nat} {y : MethodName} {cb : ByteArray} {ret : Option FieldType} {As : List Value} {ra : Int64} {τ : Mem} {st : List Value} (hl : Cond.methodLink own index y ∈ WALL) (hst : Cond.static y ∈ WALL) (hini : Cond.initialized y.cls ∈ WALL) (hcd : Cond.code y cb n ret ∈ WALL) (hd : y.cls ≠ "java/lang/invoke/MethodHandle" ∧ y.cls ≠ "java/lang/invoke/VarHandle" ∧ (parseMethodDescriptor y.desc).map (fun d => d.parameters.length) = some As.length) (hC : CallFix p m c cc nL s args WALL own) (hG : GS D cy A s) (hM : MS D cy ad A s.heap z σ H locs) (hct : CtL l y cb n ret d As D cy ad A z σ ra τ) (hR : d + 1 ≤ R.frames ∧ 8 + (n + 11) + 36 * d ≤ R.locals) (hsz : ls.size = nL) (hW : (rest.map fun v => v.category).sum ≤ 8) (hdg : decode cc pc = .ok (.invokestatic index, 3)) (hst0 : st = (As.reverse ++ rest))
    (kk : ∀ (H : Heap) (locs : List Loc), MS D cy ad A s.heap z τ H locs → W p l e R s m args below meth c H locs 0 0 Q (F0 m (pc + 3) ls (.long ra :: rest))) : W p l e R s m args below meth c H locs 0 0 Q (F0 m pc ls st) := by
  subst hst0
  refine va_calll (va_runS (As := As) (rest := rest) hC hct (va_cwS As.length hC.2.2.2.2 (WALL_cons hl (WALL_cons hst (WALL_cons hini (WALL_code hcd)))) rfl rfl rfl hd hR) ⟨Pr.blind, fun U hU hW => ⟨rfl, hM.pre hG U hU hW⟩⟩ rfl rfl hsz rfl (lv_room hW) hdg ⟨Nat.zero_le _, Nat.zero_le _⟩) hM.2.2.1 (fun q _ h => h) (fun q h => h) (fun r u t H1 locs1 ht hvm hw hB hz1 hk1 hS => ?_)
  obtain ⟨rfl, rfl⟩ := hw
  exact kk H1 locs1 (MS.post hB ht hS)
theorem callS_V {own : String} {index nL n d : Nat} {y : MethodName} {cb : ByteArray} {ret : Option FieldType} {As : List Value} {ra : Unit} {τ : Mem} {st : List Value} (hl : Cond.methodLink own index y ∈ WALL) (hst : Cond.static y ∈ WALL) (hini : Cond.initialized y.cls ∈ WALL) (hcd : Cond.code y cb n ret ∈ WALL) (hd : y.cls ≠ "java/lang/invoke/MethodHandle" ∧ y.cls ≠ "java/lang/invoke/VarHandle" ∧ (parseMethodDescriptor y.desc).map (fun d => d.parameters.length) = some As.length) (hC : CallFix p m c cc nL s args WALL own) (hG : GS D cy A s) (hM : MS D cy ad A s.heap z σ H locs) (hct : CtV l y cb n ret d As D cy ad A z σ ra τ) (hR : d + 1 ≤ R.frames ∧ 8 + (n + 11) + 36 * d ≤ R.locals) (hsz : ls.size = nL) (hW : (rest.map fun v => v.category).sum ≤ 8) (hdg : decode cc pc = .ok (.invokestatic index, 3)) (hst0 : st = (As.reverse ++ rest))
    (kk : ∀ (H : Heap) (locs : List Loc), MS D cy ad A s.heap z τ H locs → W p l e R s m args below meth c H locs 0 0 Q (F0 m (pc + 3) ls (rest))) : W p l e R s m args below meth c H locs 0 0 Q (F0 m pc ls st) := by
  subst hst0
  refine va_callv (va_runS (As := As) (rest := rest) hC hct (va_cwS As.length hC.2.2.2.2 (WALL_cons hl (WALL_cons hst (WALL_cons hini (WALL_code hcd)))) rfl rfl rfl hd hR) ⟨Pr.blind, fun U hU hW => ⟨rfl, hM.pre hG U hU hW⟩⟩ rfl rfl hsz rfl (lv_room hW) hdg ⟨Nat.zero_le _, Nat.zero_le _⟩) hM.2.2.1 (fun q _ h => h) (fun q h => h) (fun u t H1 locs1 ht hvm hw hB hz1 hk1 hS => ?_)
  subst hw
  exact kk H1 locs1 (MS.post hB ht hS)
theorem callS_R {own : String} {index nL n d : Nat} {y : MethodName} {cb : ByteArray} {ret : Option FieldType} {As : List Value} {ra : Option Nat} {τ : Mem} {st : List Value} (hl : Cond.methodLink own index y ∈ WALL) (hst : Cond.static y ∈ WALL) (hini : Cond.initialized y.cls ∈ WALL) (hcd : Cond.code y cb n ret ∈ WALL) (hd : y.cls ≠ "java/lang/invoke/MethodHandle" ∧ y.cls ≠ "java/lang/invoke/VarHandle" ∧ (parseMethodDescriptor y.desc).map (fun d => d.parameters.length) = some As.length) (hC : CallFix p m c cc nL s args WALL own) (hG : GS D cy A s) (hM : MS D cy ad A s.heap z σ H locs) (hct : CtR l y cb n ret d As D cy ad A z σ ra τ) (hR : d + 1 ≤ R.frames ∧ 8 + (n + 11) + 36 * d ≤ R.locals) (hsz : ls.size = nL) (hW : (rest.map fun v => v.category).sum ≤ 8) (hdg : decode cc pc = .ok (.invokestatic index, 3)) (hst0 : st = (As.reverse ++ rest))
    (kk : ∀ (H : Heap) (locs : List Loc), MS D cy ad A s.heap z τ H locs → W p l e R s m args below meth c H locs 0 0 Q (F0 m (pc + 3) ls (va_rf (Option.map ad ra) :: rest))) : W p l e R s m args below meth c H locs 0 0 Q (F0 m pc ls st) := by
  subst hst0
  refine va_callq (va_runS (As := As) (rest := rest) hC hct (va_cwS As.length hC.2.2.2.2 (WALL_cons hl (WALL_cons hst (WALL_cons hini (WALL_code hcd)))) rfl rfl rfl hd hR) ⟨Pr.blind, fun U hU hW => ⟨rfl, hM.pre hG U hU hW⟩⟩ rfl rfl hsz rfl (lv_room hW) hdg ⟨Nat.zero_le _, Nat.zero_le _⟩) hM.2.2.1 (fun q _ h => h) (fun q h => h) (fun r u t H1 locs1 ht hvm hw hB hz1 hk1 hS => ?_)
  obtain ⟨rfl, rfl⟩ := hw
  exact kk H1 locs1 (MS.post hB ht hS)
theorem callSN_I {own : String} {index nL n d : Nat} {y : MethodName} {cb : ByteArray} {ret : Option FieldType} {As : List Value} {ra : Int32} {τ : Mem} {st : List Value} {host : String} (hl : Cond.methodLinkNest own index y host ∈ NWL) (hst : Cond.static y ∈ WALL) (hini : Cond.initialized y.cls ∈ WALL) (hcd : Cond.code y cb n ret ∈ WALL) (hd : y.cls ≠ "java/lang/invoke/MethodHandle" ∧ y.cls ≠ "java/lang/invoke/VarHandle" ∧ (parseMethodDescriptor y.desc).map (fun d => d.parameters.length) = some As.length) (hC : CallFix p m c cc nL s args WALL own) (hG : GS D cy A s) (hM : MS D cy ad A s.heap z σ H locs) (hct : CtI l y cb n ret d As D cy ad A z σ ra τ) (hR : d + 1 ≤ R.frames ∧ 8 + (n + 11) + 36 * d ≤ R.locals) (hsz : ls.size = nL) (hW : (rest.map fun v => v.category).sum ≤ 8) (hdg : decode cc pc = .ok (.invokestatic index, 3)) (hst0 : st = (As.reverse ++ rest))
    (kk : ∀ (H : Heap) (locs : List Loc), MS D cy ad A s.heap z τ H locs → W p l e R s m args below meth c H locs 0 0 Q (F0 m (pc + 3) ls (.int ra :: rest))) : W p l e R s m args below meth c H locs 0 0 Q (F0 m pc ls st) := by
  subst hst0
  refine va_calli (va_runSN (As := As) (rest := rest) hC hct ⟨va_cnB As.length hC.2.2.2.2 (WALL_code hcd) rfl rfl rfl (hG.2.1 _ hl) (hC.2.2.2.2 _ hini) hd hR, hC.2.2.2.2 _ hst, trivial⟩ ⟨Pr.blind, fun U hU hW => ⟨rfl, hM.pre hG U hU hW⟩⟩ rfl rfl hsz rfl (lv_room hW) hdg ⟨Nat.zero_le _, Nat.zero_le _⟩) hM.2.2.1 (fun q _ h => h) (fun q h => h) (fun r u t H1 locs1 ht hvm hw hB hz1 hk1 hS => ?_)
  obtain ⟨rfl, rfl⟩ := hw
  exact kk H1 locs1 (MS.post hB ht hS)
theorem callSN_L {own : String} {index nL n d : Nat} {y : MethodName} {cb : ByteArray} {ret : Option FieldType} {As : List Value} {ra : Int64} {τ : Mem} {st : List Value} {host : String} (hl : Cond.methodLinkNest own index y host ∈ NWL) (hst : Cond.static y ∈ WALL) (hini : Cond.initialized y.cls ∈ WALL) (hcd : Cond.code y cb n ret ∈ WALL) (hd : y.cls ≠ "java/lang/invoke/MethodHandle" ∧ y.cls ≠ "java/lang/invoke/VarHandle" ∧ (parseMethodDescriptor y.desc).map (fun d => d.parameters.length) = some As.length) (hC : CallFix p m c cc nL s args WALL own) (hG : GS D cy A s) (hM : MS D cy ad A s.heap z σ H locs) (hct : CtL l y cb n ret d As D cy ad A z σ ra τ) (hR : d + 1 ≤ R.frames ∧ 8 + (n + 11) + 36 * d ≤ R.locals) (hsz : ls.size = nL) (hW : (rest.map fun v => v.category).sum ≤ 8) (hdg : decode cc pc = .ok (.invokestatic index, 3)) (hst0 : st = (As.reverse ++ rest))
    (kk : ∀ (H : Heap) (locs : List Loc), MS D cy ad A s.heap z τ H locs → W p l e R s m args below meth c H locs 0 0 Q (F0 m (pc + 3) ls (.long ra :: rest))) : W p l e R s m args below meth c H locs 0 0 Q (F0 m pc ls st) := by
  subst hst0
  refine va_calll (va_runSN (As := As) (rest := rest) hC hct ⟨va_cnB As.length hC.2.2.2.2 (WALL_code hcd) rfl rfl rfl (hG.2.1 _ hl) (hC.2.2.2.2 _ hini) hd hR, hC.2.2.2.2 _ hst, trivial⟩ ⟨Pr.blind, fun U hU hW => ⟨rfl, hM.pre hG U hU hW⟩⟩ rfl rfl hsz rfl (lv_room hW) hdg ⟨Nat.zero_le _, Nat.zero_le _⟩) hM.2.2.1 (fun q _ h => h) (fun q h => h) (fun r u t H1 locs1 ht hvm hw hB hz1 hk1 hS => ?_)
  obtain ⟨rfl, rfl⟩ := hw
  exact kk H1 locs1 (MS.post hB ht hS)
theorem callSN_V {own : String} {index nL n d : Nat} {y : MethodName} {cb : ByteArray} {ret : Option FieldType} {As : List Value} {ra : Unit} {τ : Mem} {st : List Value} {host : String} (hl : Cond.methodLinkNest own index y host ∈ NWL) (hst : Cond.static y ∈ WALL) (hini : Cond.initialized y.cls ∈ WALL) (hcd : Cond.code y cb n ret ∈ WALL) (hd : y.cls ≠ "java/lang/invoke/MethodHandle" ∧ y.cls ≠ "java/lang/invoke/VarHandle" ∧ (parseMethodDescriptor y.desc).map (fun d => d.parameters.length) = some As.length) (hC : CallFix p m c cc nL s args WALL own) (hG : GS D cy A s) (hM : MS D cy ad A s.heap z σ H locs) (hct : CtV l y cb n ret d As D cy ad A z σ ra τ) (hR : d + 1 ≤ R.frames ∧ 8 + (n + 11) + 36 * d ≤ R.locals) (hsz : ls.size = nL) (hW : (rest.map fun v => v.category).sum ≤ 8) (hdg : decode cc pc = .ok (.invokestatic index, 3)) (hst0 : st = (As.reverse ++ rest))
    (kk : ∀ (H : Heap) (locs : List Loc), MS D cy ad A s.heap z τ H locs → W p l e R s m args below meth c H locs 0 0 Q (F0 m (pc + 3) ls (rest))) : W p l e R s m args below meth c H locs 0 0 Q (F0 m pc ls st) := by
  subst hst0
  refine va_callv (va_runSN (As := As) (rest := rest) hC hct ⟨va_cnB As.length hC.2.2.2.2 (WALL_code hcd) rfl rfl rfl (hG.2.1 _ hl) (hC.2.2.2.2 _ hini) hd hR, hC.2.2.2.2 _ hst, trivial⟩ ⟨Pr.blind, fun U hU hW => ⟨rfl, hM.pre hG U hU hW⟩⟩ rfl rfl hsz rfl (lv_room hW) hdg ⟨Nat.zero_le _, Nat.zero_le _⟩) hM.2.2.1 (fun q _ h => h) (fun q h => h) (fun u t H1 locs1 ht hvm hw hB hz1 hk1 hS => ?_)
  subst hw
  exact kk H1 locs1 (MS.post hB ht hS)
theorem callSN_R {own : String} {index nL n d : Nat} {y : MethodName} {cb : ByteArray} {ret : Option FieldType} {As : List Value} {ra : Option Nat} {τ : Mem} {st : List Value} {host : String} (hl : Cond.methodLinkNest own index y host ∈ NWL) (hst : Cond.static y ∈ WALL) (hini : Cond.initialized y.cls ∈ WALL) (hcd : Cond.code y cb n ret ∈ WALL) (hd : y.cls ≠ "java/lang/invoke/MethodHandle" ∧ y.cls ≠ "java/lang/invoke/VarHandle" ∧ (parseMethodDescriptor y.desc).map (fun d => d.parameters.length) = some As.length) (hC : CallFix p m c cc nL s args WALL own) (hG : GS D cy A s) (hM : MS D cy ad A s.heap z σ H locs) (hct : CtR l y cb n ret d As D cy ad A z σ ra τ) (hR : d + 1 ≤ R.frames ∧ 8 + (n + 11) + 36 * d ≤ R.locals) (hsz : ls.size = nL) (hW : (rest.map fun v => v.category).sum ≤ 8) (hdg : decode cc pc = .ok (.invokestatic index, 3)) (hst0 : st = (As.reverse ++ rest))
    (kk : ∀ (H : Heap) (locs : List Loc), MS D cy ad A s.heap z τ H locs → W p l e R s m args below meth c H locs 0 0 Q (F0 m (pc + 3) ls (va_rf (Option.map ad ra) :: rest))) : W p l e R s m args below meth c H locs 0 0 Q (F0 m pc ls st) := by
  subst hst0
  refine va_callq (va_runSN (As := As) (rest := rest) hC hct ⟨va_cnB As.length hC.2.2.2.2 (WALL_code hcd) rfl rfl rfl (hG.2.1 _ hl) (hC.2.2.2.2 _ hini) hd hR, hC.2.2.2.2 _ hst, trivial⟩ ⟨Pr.blind, fun U hU hW => ⟨rfl, hM.pre hG U hU hW⟩⟩ rfl rfl hsz rfl (lv_room hW) hdg ⟨Nat.zero_le _, Nat.zero_le _⟩) hM.2.2.1 (fun q _ h => h) (fun q h => h) (fun r u t H1 locs1 ht hvm hw hB hz1 hk1 hS => ?_)
  obtain ⟨rfl, rfl⟩ := hw
  exact kk H1 locs1 (MS.post hB ht hS)
end RC
section RE
variable {p : Program} {l : Launch} {e : Env} {R : Room} {s : State} {m : MethodId} {args : Array Value} {below : List Frame} {meth : Method} {c : Code}
variable {cc : ByteArray} {D : va_G} {cy : Nat → ClassId} {ad : Nat → Nat} {A : Nat → Prop} {z : Nat} {σ : Mem}
def KrI (p : Program) (l : Launch) (e : Env) (R : Room) (s : State) (m : MethodId) (args : Array Value) (below : List Frame) (meth : Method) (c : Code) (cc : ByteArray) (Q : State → Prop) (D : va_G) (cy : Nat → ClassId) (ad : Nat → Nat) (A : Nat → Prop) (z : Nat) (r : Int32) (σ' : Mem) : Prop :=
  ∀ (H : Heap) (locs : List Loc) (pc : Nat) (ls : Array Slot), decode cc pc = .ok (.ireturn, 1) → MS D cy ad A s.heap z σ' H locs → W p l e R s m args below meth c H locs 0 0 Q (F0 m pc ls [.int r])
def KrZ (p : Program) (l : Launch) (e : Env) (R : Room) (s : State) (m : MethodId) (args : Array Value) (below : List Frame) (meth : Method) (c : Code) (cc : ByteArray) (Q : State → Prop) (D : va_G) (cy : Nat → ClassId) (ad : Nat → Nat) (A : Nat → Prop) (z : Nat) (r : Int32) (σ' : Mem) : Prop :=
  ∀ (H : Heap) (locs : List Loc) (pc : Nat) (ls : Array Slot), decode cc pc = .ok (.ireturn, 1) → narrow .boolean (.int r) = .int r → MS D cy ad A s.heap z σ' H locs → W p l e R s m args below meth c H locs 0 0 Q (F0 m pc ls [.int r])
def KrL (p : Program) (l : Launch) (e : Env) (R : Room) (s : State) (m : MethodId) (args : Array Value) (below : List Frame) (meth : Method) (c : Code) (cc : ByteArray) (Q : State → Prop) (D : va_G) (cy : Nat → ClassId) (ad : Nat → Nat) (A : Nat → Prop) (z : Nat) (r : Int64) (σ' : Mem) : Prop :=
  ∀ (H : Heap) (locs : List Loc) (pc : Nat) (ls : Array Slot), decode cc pc = .ok (.lreturn, 1) → MS D cy ad A s.heap z σ' H locs → W p l e R s m args below meth c H locs 0 0 Q (F0 m pc ls [.long r])
def KrV (p : Program) (l : Launch) (e : Env) (R : Room) (s : State) (m : MethodId) (args : Array Value) (below : List Frame) (meth : Method) (c : Code) (cc : ByteArray) (Q : State → Prop) (D : va_G) (cy : Nat → ClassId) (ad : Nat → Nat) (A : Nat → Prop) (z : Nat) (r : Unit) (σ' : Mem) : Prop :=
  ∀ (H : Heap) (locs : List Loc) (pc : Nat) (ls : Array Slot), decode cc pc = .ok (.return_, 1) → MS D cy ad A s.heap z σ' H locs → W p l e R s m args below meth c H locs 0 0 Q (F0 m pc ls [])
def KrR (p : Program) (l : Launch) (e : Env) (R : Room) (s : State) (m : MethodId) (args : Array Value) (below : List Frame) (meth : Method) (c : Code) (cc : ByteArray) (Q : State → Prop) (D : va_G) (cy : Nat → ClassId) (ad : Nat → Nat) (A : Nat → Prop) (z : Nat) (r : Option Nat) (σ' : Mem) : Prop :=
  ∀ (H : Heap) (locs : List Loc) (pc : Nat) (ls : Array Slot), decode cc pc = .ok (.areturn, 1) → MS D cy ad A s.heap z σ' H locs → W p l e R s m args below meth c H locs 0 0 Q (F0 m pc ls [va_rf (Option.map ad r)])
theorem enterI {y : MethodName} {cb : ByteArray} {n d : Nat} {rt0 : Option FieldType} {own : String} {av : List Value} {r : Int32} {σ' : Mem} (hy : plainName y.cls = true) (ho : y.cls = own) (hn : (lg_sl av).length ≤ n) (hrt : rt0 = some .int)
    (body : ∀ (p : Program) (e : Env) (s : State) (m : MethodId) (below : List Frame) (meth : Method) (c : Code) (Q : State → Prop) (ls : Array Slot), CallFix p m c cb n s av.toArray WALL own → GS D cy A s → MS D cy ad A s.heap z σ s.heap [] → KrI p l e (rm d) s m av.toArray below meth c cb Q D cy ad A z r σ' → lv_has ls n (lv_args 0 av) → W p l e (rm d) s m av.toArray below meth c s.heap [] 0 0 Q (F0 m 0 ls [])) : CtI l y cb n rt0 d av D cy ad A z σ r σ' := by
  refine Met.ofW (cc := cb) (maxL := n) (ret := rt0) hy rfl ?_
  intro p e s m args below meth c s₁ B hml hv
  obtain ⟨rfl, hP, hD, hz, hG⟩ := hv
  have hx := B.exec
  have hb := B.bytes
  have hr := B.returns
  have hts := atoms_spec (ws := Cond.code y cb n rt0 :: WALL) B.pre
  have hown : s.vm.findClass own = some m.cls := by rw [← ho]; exact findClass_of_methodNamed B.named
  have hlocks := B.notSynchronized
  have hl := lv_entry av (n := n) hn
  rw [lg_entry_eq]
  refine body p e s m below meth c _ _ ⟨hx, hb, hml, hown, fun w hw => hts w (List.mem_cons_of_mem _ hw)⟩ hG ⟨hP, hD, va_S.rf, hz⟩ ?_ hl
  intro H locs pc ls hdg hM
  exact W.iret (v := r) hx hb (hr.trans hrt) (fun t ht hW => ⟨⟨r, σ', rfl, ⟨rfl, rfl⟩, by rw [ht]; exact hM.1, hM.2.1, by rw [ht]; exact hM.2.2.2⟩, hM.2.2.1.F ht⟩) hM.2.2.1.2.2 hdg hlocks
theorem enterZ {y : MethodName} {cb : ByteArray} {n d : Nat} {rt0 : Option FieldType} {own : String} {av : List Value} {r : Int32} {σ' : Mem} (hy : plainName y.cls = true) (ho : y.cls = own) (hn : (lg_sl av).length ≤ n) (hrt : rt0 = some .boolean)
    (body : ∀ (p : Program) (e : Env) (s : State) (m : MethodId) (below : List Frame) (meth : Method) (c : Code) (Q : State → Prop) (ls : Array Slot), CallFix p m c cb n s av.toArray WALL own → GS D cy A s → MS D cy ad A s.heap z σ s.heap [] → KrZ p l e (rm d) s m av.toArray below meth c cb Q D cy ad A z r σ' → lv_has ls n (lv_args 0 av) → W p l e (rm d) s m av.toArray below meth c s.heap [] 0 0 Q (F0 m 0 ls [])) : CtI l y cb n rt0 d av D cy ad A z σ r σ' := by
  refine Met.ofW (cc := cb) (maxL := n) (ret := rt0) hy rfl ?_
  intro p e s m args below meth c s₁ B hml hv
  obtain ⟨rfl, hP, hD, hz, hG⟩ := hv
  have hx := B.exec
  have hb := B.bytes
  have hr := B.returns
  have hts := atoms_spec (ws := Cond.code y cb n rt0 :: WALL) B.pre
  have hown : s.vm.findClass own = some m.cls := by rw [← ho]; exact findClass_of_methodNamed B.named
  have hlocks := B.notSynchronized
  have hl := lv_entry av (n := n) hn
  rw [lg_entry_eq]
  refine body p e s m below meth c _ _ ⟨hx, hb, hml, hown, fun w hw => hts w (List.mem_cons_of_mem _ hw)⟩ hG ⟨hP, hD, va_S.rf, hz⟩ ?_ hl
  intro H locs pc ls hdg hnr hM
  exact W.zret (v := r) (ty := .boolean) hx hb (hr.trans hrt) hnr (fun t ht hW => ⟨⟨r, σ', rfl, ⟨rfl, rfl⟩, by rw [ht]; exact hM.1, hM.2.1, by rw [ht]; exact hM.2.2.2⟩, hM.2.2.1.F ht⟩) hM.2.2.1.2.2 hdg hlocks
theorem enterL {y : MethodName} {cb : ByteArray} {n d : Nat} {rt0 : Option FieldType} {own : String} {av : List Value} {r : Int64} {σ' : Mem} (hy : plainName y.cls = true) (ho : y.cls = own) (hn : (lg_sl av).length ≤ n) (hrt : rt0 = some .long)
    (body : ∀ (p : Program) (e : Env) (s : State) (m : MethodId) (below : List Frame) (meth : Method) (c : Code) (Q : State → Prop) (ls : Array Slot), CallFix p m c cb n s av.toArray WALL own → GS D cy A s → MS D cy ad A s.heap z σ s.heap [] → KrL p l e (rm d) s m av.toArray below meth c cb Q D cy ad A z r σ' → lv_has ls n (lv_args 0 av) → W p l e (rm d) s m av.toArray below meth c s.heap [] 0 0 Q (F0 m 0 ls [])) : CtL l y cb n rt0 d av D cy ad A z σ r σ' := by
  refine Met.ofW (cc := cb) (maxL := n) (ret := rt0) hy rfl ?_
  intro p e s m args below meth c s₁ B hml hv
  obtain ⟨rfl, hP, hD, hz, hG⟩ := hv
  have hx := B.exec
  have hb := B.bytes
  have hr := B.returns
  have hts := atoms_spec (ws := Cond.code y cb n rt0 :: WALL) B.pre
  have hown : s.vm.findClass own = some m.cls := by rw [← ho]; exact findClass_of_methodNamed B.named
  have hlocks := B.notSynchronized
  have hl := lv_entry av (n := n) hn
  rw [lg_entry_eq]
  refine body p e s m below meth c _ _ ⟨hx, hb, hml, hown, fun w hw => hts w (List.mem_cons_of_mem _ hw)⟩ hG ⟨hP, hD, va_S.rf, hz⟩ ?_ hl
  intro H locs pc ls hdg hM
  exact W.lret (v := r) hx hb (hr.trans hrt) (fun t ht hW => ⟨⟨r, σ', rfl, ⟨rfl, rfl⟩, by rw [ht]; exact hM.1, hM.2.1, by rw [ht]; exact hM.2.2.2⟩, hM.2.2.1.F ht⟩) hM.2.2.1.2.2 hdg hlocks
theorem enterV {y : MethodName} {cb : ByteArray} {n d : Nat} {rt0 : Option FieldType} {own : String} {av : List Value} {r : Unit} {σ' : Mem} (hy : plainName y.cls = true) (ho : y.cls = own) (hn : (lg_sl av).length ≤ n) (hrt : rt0 = none)
    (body : ∀ (p : Program) (e : Env) (s : State) (m : MethodId) (below : List Frame) (meth : Method) (c : Code) (Q : State → Prop) (ls : Array Slot), CallFix p m c cb n s av.toArray WALL own → GS D cy A s → MS D cy ad A s.heap z σ s.heap [] → KrV p l e (rm d) s m av.toArray below meth c cb Q D cy ad A z r σ' → lv_has ls n (lv_args 0 av) → W p l e (rm d) s m av.toArray below meth c s.heap [] 0 0 Q (F0 m 0 ls [])) : CtV l y cb n rt0 d av D cy ad A z σ r σ' := by
  refine Met.ofW (cc := cb) (maxL := n) (ret := rt0) hy rfl ?_
  intro p e s m args below meth c s₁ B hml hv
  obtain ⟨rfl, hP, hD, hz, hG⟩ := hv
  have hx := B.exec
  have hb := B.bytes
  have hr := B.returns
  have hts := atoms_spec (ws := Cond.code y cb n rt0 :: WALL) B.pre
  have hown : s.vm.findClass own = some m.cls := by rw [← ho]; exact findClass_of_methodNamed B.named
  have hlocks := B.notSynchronized
  have hl := lv_entry av (n := n) hn
  rw [lg_entry_eq]
  refine body p e s m below meth c _ _ ⟨hx, hb, hml, hown, fun w hw => hts w (List.mem_cons_of_mem _ hw)⟩ hG ⟨hP, hD, va_S.rf, hz⟩ ?_ hl
  intro H locs pc ls hdg hM
  exact W.vret hx hb (hr.trans hrt) (fun t ht hW => ⟨⟨σ', rfl, rfl, by rw [ht]; exact hM.1, hM.2.1, by rw [ht]; exact hM.2.2.2⟩, hM.2.2.1.F ht⟩) hM.2.2.1.2.2 hdg hlocks
theorem enterR {y : MethodName} {cb : ByteArray} {n d : Nat} {rt0 : Option FieldType} {own : String} {av : List Value} {r : Option Nat} {σ' : Mem} (hy : plainName y.cls = true) (ho : y.cls = own) (hn : (lg_sl av).length ≤ n) {rtt : FieldType} (hrt : rt0 = some rtt) (hro : (∃ n, rtt = .object n) ∨ ∃ t, rtt = .array t)
    (body : ∀ (p : Program) (e : Env) (s : State) (m : MethodId) (below : List Frame) (meth : Method) (c : Code) (Q : State → Prop) (ls : Array Slot), CallFix p m c cb n s av.toArray WALL own → GS D cy A s → MS D cy ad A s.heap z σ s.heap [] → KrR p l e (rm d) s m av.toArray below meth c cb Q D cy ad A z r σ' → lv_has ls n (lv_args 0 av) → W p l e (rm d) s m av.toArray below meth c s.heap [] 0 0 Q (F0 m 0 ls [])) : CtR l y cb n rt0 d av D cy ad A z σ r σ' := by
  refine Met.ofW (cc := cb) (maxL := n) (ret := rt0) hy rfl ?_
  intro p e s m args below meth c s₁ B hml hv
  obtain ⟨rfl, hP, hD, hz, hG⟩ := hv
  have hx := B.exec
  have hb := B.bytes
  have hr := B.returns
  have hts := atoms_spec (ws := Cond.code y cb n rt0 :: WALL) B.pre
  have hown : s.vm.findClass own = some m.cls := by rw [← ho]; exact findClass_of_methodNamed B.named
  have hlocks := B.notSynchronized
  have hl := lv_entry av (n := n) hn
  rw [lg_entry_eq]
  refine body p e s m below meth c _ _ ⟨hx, hb, hml, hown, fun w hw => hts w (List.mem_cons_of_mem _ hw)⟩ hG ⟨hP, hD, va_S.rf, hz⟩ ?_ hl
  intro H locs pc ls hdg hM
  exact W.aret (v := va_rf (Option.map ad r)) (rt := rtt) hx hb (hr.trans hrt) hro (va_rf_or _) (fun t ht hW => ⟨⟨_, σ', rfl, ⟨rfl, rfl⟩, by rw [ht]; exact hM.1, hM.2.1, by rw [ht]; exact hM.2.2.2⟩, hM.2.2.1.F ht⟩) hM.2.2.1.2.2 hdg hlocks
end RE
theorem nar01 {r : Int32} (h : r = 0 ∨ r = 1) : narrow .boolean (.int r) = .int r := by rcases h with rfl | rfl <;> rfl
theorem nr_obj (C : String) (r : Option Nat) : narrow (.object C) (va_rf r) = va_rf r ∧ fits (.object C) (va_rf r) = true := by cases r <;> exact ⟨rfl, rfl⟩
theorem nr_arr (t : FieldType) (r : Option Nat) : narrow (.array t) (va_rf r) = va_rf r ∧ fits (.array t) (va_rf r) = true := by cases r <;> exact ⟨rfl, rfl⟩
