/-! making cells -/
def adz (z0 : Nat) : Nat → Nat := fun c => z0 + c
theorem cellOf_al {cy : Nat → ClassId} {ad : Nat → Nat} {σ : Mem} {k n b : Nat} (h : b ≠ σ.1) : cellOf cy ad (al σ k n) b = cellOf cy ad σ b := by
  have e0 : (al σ k n).2.1 b = σ.2.1 b := by simp [al, h]
  have e1 : ∀ q, fsOf ad (al σ k n) b q = fsOf ad σ b q := fun q => by
    unfold fsOf
    apply List.map_congr_left
    intro j _
    simp [fv, gI, gJ, gR, al, h]
  have e2 : gI (al σ k n) b = gI σ b := by funext j; simp [gI, al, h]
  have e3 : gJ (al σ k n) b = gJ σ b := by funext j; simp [gJ, al, h]
  have e4 : gR (al σ k n) b = gR σ b := by funext j; simp [gR, al, h]
  have e5 : gL (al σ k n) b = gL σ b := by simp [gL, al, h]
  unfold cellOf
  simp only [e0, e1, e2, e3, e4, e5]
theorem MM_al {cy : Nat → ClassId} {ad : Nat → Nat} {σ : Mem} {k n : Nat} : MM cy ad (al σ k n) = MM cy ad σ ++ [(ad σ.1, cellOf cy ad (al σ k n) σ.1)] := by
  unfold MM
  rw [show (al σ k n).1 = σ.1 + 1 from rfl, List.range_succ, List.map_append]
  congr 1
  apply List.map_congr_left
  intro b hb
  rw [cellOf_al (Nat.ne_of_lt (List.mem_range.mp hb))]
theorem MS.al {D : va_G} {cy : Nat → ClassId} {ad : Nat → Nat} {A : Nat → Prop} {H0 : Heap} {z k n : Nat} {σ : Mem} {H H1 : Heap} {locs : List Loc} (h : MS D cy ad A H0 z σ H locs) (hA : ∀ q : Nat, H0.size ≤ q → A q) (had : ad σ.1 = z) (he : va_at D vwCl (ad σ.1, cellOf cy ad (al σ k n) σ.1) H1) (hz : H1.size = z + 1) (o1 : ∀ q : Nat, q < z → H1[q]? = H[q]?) : MS D cy ad A H0 (z + 1) (al σ k n) H1 locs := by
  obtain ⟨hP, hD, hS, hs⟩ := h
  have hk : ∀ (i : Nat) (x : Nat × va_E), (MM cy ad σ)[i]? = some x → H1[x.1]? = H[x.1]? := fun i x hx => o1 x.1 (by rw [← hs]; exact (hP i x hx).lt)
  refine ⟨?_, ?_, ⟨Nat.le_trans hS.1 (by omega), fun x h1 h2 => (o1 x (by rw [← hs]; exact Nat.lt_of_lt_of_le h1 hS.1)).trans (hS.2.1 x h1 h2), hS.2.2⟩, hz⟩
  · rw [MM_al]
    refine (hP.kept hk).app (fun i x hx => ?_)
    have hz : i < 1 := (List.getElem?_eq_some_iff.mp hx).1
    rw [show i = 0 by omega] at hx
    cases hx
    exact he
  · rw [MM_al]
    exact hD.push hP (by rw [had, hs]) (hA _ (by rw [had, ← hs]; exact hS.1))
def GC (D : va_G) (cy : Nat → ClassId) (A : Nat → Prop) (U : State) : Prop := GS D cy A U ∧ va_AO RX0 U ∧ va_AO RX2 U
theorem GC.calling {D : va_G} {cy : Nat → ClassId} {A : Nat → Prop} {U : State} (h : GC D cy A U) (g : JFrame) (mk : MethodId) (a : Array Value) : GC D cy A (U.calling g mk a) :=
  ⟨h.1.calling g mk a, va_AO.moved (u := U) (U := U.calling g mk a) (Vm.Alike.refl U.vm) h.2.1, va_AO.moved (u := U) (U := U.calling g mk a) (Vm.Alike.refl U.vm) h.2.2⟩
theorem GC.at {D : va_G} {cy : Nat → ClassId} {A : Nat → Prop} {s U : State} {H : Heap} {locs : List Loc} (h : GC D cy A s) (hS : va_S A s.heap H locs) (hU : U.heap = H) (hW : s.WarmedH U.vm) : GC D cy A U := ⟨h.1.at hS hU hW, va_AO.moved hW.alike h.2.1, va_AO.moved hW.alike h.2.2⟩
def PrC (D : va_G) (cy : Nat → ClassId) (z0 : Nat) (A : Nat → Prop) (σ : Mem) (U : State) : Prop := va_P D vwCl (MM cy (adz z0) σ) U.heap ∧ va_D A (MM cy (adz z0) σ) ∧ U.heap.size = z0 + gN σ ∧ GC D cy A U
theorem PrC.blind {D : va_G} {cy : Nat → ClassId} {z0 : Nat} {A : Nat → Prop} {σ : Mem} {av : List Value} : FrameBlind (va_Pc av (PrC D cy z0 A σ)) := by
  intro a U g mk h
  obtain ⟨q0, qP, qD, qz, qG⟩ := h
  exact ⟨q0, qP, qD, qz, qG.calling g mk a⟩
abbrev rmC (d mc ms : Nat) : Room := { frames := d, cells := mc, slots := ms, locals := 36 * d }
abbrev CtN (l : Launch) (y : MethodName) (cb : ByteArray) (n : Nat) (d mc ms : Nat) (av : List Value) (D : va_G) (cy : Nat → ClassId) (z0 : Nat) (A : Nat → Prop) (σ σ' : Mem) : Prop :=
  Met l y (Cond.code y cb n none :: WALL) (rmC d mc ms) (va_Pc av (PrC D cy z0 A σ)) (va_Qv (fun (τ : Mem) => τ = σ') (Po D cy (adz z0) A (z0 + gN σ')) A) mc ms A
/-- the bundle while cells are made -/
abbrev MC (D : va_G) (cy : Nat → ClassId) (z0 : Nat) (A : Nat → Prop) (H0 : Heap) (σ : Mem) (H : Heap) (locs : List Loc) : Prop := MS D cy (adz z0) A H0 (z0 + gN σ) σ H locs
def wR (σ : Mem) (k kx : Nat) (v : Option Nat) (i : Int32) (x : Option Nat) : Option Mem := v.bind fun c => x.bind fun d => if kd σ c = k ∧ kd σ d = kx then (if i < 0 ∨ gL σ c ≤ i.toNatClampNeg then none else some (sR σ c i.toNatClampNeg (some d))) else none
theorem wR_some {σ τ : Mem} {k kx : Nat} {v x : Option Nat} {i : Int32} (h : wR σ k kx v i x = some τ) : ∃ c d, v = some c ∧ x = some d ∧ kd σ c = k ∧ kd σ d = kx ∧ vp_in i (gL σ c) ∧ τ = sR σ c i.toNatClampNeg (some d) := by
  obtain ⟨c, hv, h⟩ := bn h
  obtain ⟨d, hx, h⟩ := bn h
  split at h
  · rename_i hk
    split at h
    · cases h
    · exact ⟨c, d, hv, hx, hk.1, hk.2, by assumption, (Option.some.inj h).symm⟩
  · cases h
section RN
variable {p : Program} {l : Launch} {e : Env} {R : Room} {s : State} {m : MethodId} {args : Array Value} {below : List Frame} {meth : Method} {c : Code} {H : Heap} {locs : List Loc} {cells slots : Nat} {Q : State → Prop}
variable {cc : ByteArray} {pc nL : Nat} {ls : Array Slot} {rest : List Value} {D : va_G} {cy : Nat → ClassId} {z0 : Nat} {A : Nat → Prop} {σ : Mem}
theorem m_newI {atype : ArrayType} (kA t0 : Nat) (hkA : kA = 10 ∨ kA = 11 ∨ kA = 13) (hx : p.tables.exec = Jvm.exec) (hb : c.code = cc) (harr : (Cond.arrayClass (newarray.typeOf atype)).before args s = true) (hG : GS D cy A s) (hty : (tyL cy)[t0]? = some (cy kA, newarray.typeOf atype)) (hfc : va_RA s (cy kA) (newarray.typeOf atype) → s.vm.findClass ("[" ++ (newarray.typeOf atype).toString) = some (cy kA)) (hdv : defaultValue (newarray.typeOf atype) = .int 0) (hM : MC D cy z0 A s.heap σ H locs) {n : Int32} {N : Nat} (hn : ¬ n < 0) (hN : n.toNatClampNeg = N) (hbytes : N * componentBytes (newarray.typeOf atype) ≤ 536870912) (hcells : cells + 1 ≤ R.cells) (hslots : slots + N ≤ R.slots) (hdg : decode cc pc = .ok (.newarray atype, 2))
    (kk : ∀ H : Heap, MC D cy z0 A s.heap (al σ kA N) H locs → W p l e R s m args below meth c H locs (cells + 1) (slots + N) Q (F0 m (pc + 2) ls (va_rf (Option.map (adz z0) (some (gN σ))) :: rest))) : W p l e R s m args below meth c H locs cells slots Q (F0 m pc ls (.int n :: rest)) := by
  refine va_newaK hx hb harr rfl hdg rfl hn hN hbytes hcells hslots hM.2.2.2 fun H1 cA e1 z1 o1 hAr hNm => ?_
  have hcA : cA = cy kA := Option.some.inj (hNm.symm.trans (hfc (hG.1.2 t0 _ hty).2))
  subst hcA
  refine kk H1 (MS.al hM hG.2.2.2 rfl ?_ z1 o1)
  rw [cellOf_I cy (adz z0) (k := kA) (by simp [al]) hkA]
  show H1[z0 + σ.1]? = some (vp_cell _ _)
  rw [vp_cell_i, show z0 + σ.1 = z0 + gN σ from rfl, e1, hdv]
  simp only [gL, gI, al, if_true]
theorem m_newJ (hx : p.tables.exec = Jvm.exec) (hb : c.code = cc) (harr : (Cond.arrayClass .long).before args s = true) (hG : GS D cy A s) (hM : MC D cy z0 A s.heap σ H locs) {n : Int32} {N : Nat} (hn : ¬ n < 0) (hN : n.toNatClampNeg = N) (hbytes : N * componentBytes .long ≤ 536870912) (hcells : cells + 1 ≤ R.cells) (hslots : slots + N ≤ R.slots) (hdg : decode cc pc = .ok (.newarray .long, 2))
    (kk : ∀ H : Heap, MC D cy z0 A s.heap (al σ 12 N) H locs → W p l e R s m args below meth c H locs (cells + 1) (slots + N) Q (F0 m (pc + 2) ls (va_rf (Option.map (adz z0) (some (gN σ))) :: rest))) : W p l e R s m args below meth c H locs cells slots Q (F0 m pc ls (.int n :: rest)) := by
  refine va_newaK (atype := .long) hx hb harr rfl hdg rfl hn hN hbytes hcells hslots hM.2.2.2 fun H1 cA e1 z1 o1 hAr hNm => ?_
  have hcA : cA = cy 12 := Option.some.inj (hNm.symm.trans (hG.1.2 2 _ rfl).2)
  subst hcA
  refine kk H1 (MS.al hM hG.2.2.2 rfl ?_ z1 o1)
  rw [cellOf_J cy (adz z0) (by simp [al])]
  show H1[z0 + σ.1]? = some (vp_cell _ _)
  rw [vp_cell_l, show z0 + σ.1 = z0 + gN σ from rfl, e1]
  simp only [gL, gJ, al, if_true]
  rfl
theorem m_anew {own C : String} {index : Nat} (kA t0 : Nat) (hkA : kA = 14 ∨ kA = 15) (hC : CallFix p m c cc nL s args WALL own) (hclink : Cond.classLink own index C ∈ WALL) (hAO : va_AO C s) (hG : GS D cy A s) (hty : (tyL cy)[t0]? = some (cy kA, .object C)) (hM : MC D cy z0 A s.heap σ H locs) {n : Int32} {N : Nat} (hn : ¬ n < 0) (hN : n.toNatClampNeg = N) (hbytes : N * 4 ≤ 536870912) (hcells : cells + 1 ≤ R.cells) (hslots : slots + N ≤ R.slots) (hdg : decode cc pc = .ok (.anewarray index, 3))
    (kk : ∀ H : Heap, MC D cy z0 A s.heap (al σ kA N) H locs → W p l e R s m args below meth c H locs (cells + 1) (slots + N) Q (F0 m (pc + 3) ls (va_rf (Option.map (adz z0) (some (gN σ))) :: rest))) : W p l e R s m args below meth c H locs cells slots Q (F0 m pc ls (.int n :: rest)) := by
  subst hN
  refine W.anew hC.1 hC.2.1 hC.2.2.2.1 (hC.2.2.2.2 _ hclink) (va_AO.use hAO) rfl hdg rfl hn hbytes hcells hslots fun cA kAc comp f1 f2 f3 f4 => ?_
  obtain ⟨kA2, comp2, r1, r2, r3, r4⟩ := (hG.1.2 t0 _ hty).2
  have hcA : cA = cy kA := Option.some.inj (f1.symm.trans r4)
  subst hcA
  generalize hH1 : H.push ({ cls := cy kA, slots := Array.replicate n.toNatClampNeg .null, vm := .none } : Cell) = H1
  have hs : H.size = z0 + gN σ := hM.2.2.2
  have z1 : H1.size = z0 + gN σ + 1 := by rw [← hH1, Array.size_push, hs]
  have e1 : H1[H.size]? = some (arrV (cy kA) n.toNatClampNeg (fun _ => .null)) := by rw [← hH1, Array.getElem?_push_size, ← arrV_new]
  have o1 : ∀ q : Nat, q < z0 + gN σ → H1[q]? = H[q]? := fun q hq => by rw [← hH1, Array.getElem?_push, if_neg (by omega)]
  have hk := kk H1 (MS.al hM hG.2.2.2 rfl (by
    rw [cellOf_R cy (adz z0) (k := kA) (by simp [al]) hkA]
    show H1[z0 + σ.1]? = some (vp_cell _ _)
    rw [vp_cell_q, show z0 + σ.1 = H.size from hs.symm, e1]
    simp only [gL, gR, al, if_true]
    rfl) z1 o1)
  have e2 : Value.ref H.size = va_rf (Option.map (adz z0) (some (gN σ))) := by rw [hs]; rfl
  rw [← e2] at hk
  exact hk
theorem m_newc {own C : String} {T : u_T} {N ci index : Nat} (hC : CallFix p m c cc nL s args WALL own) (hin : ∀ w ∈ u_ws C T N, w ∈ WALL) (ty : Nat → FieldType) (hty : ∀ k, k < N → parseFieldDescriptor (T k).2.2.1 = some (ty k)) (hcl : Cond.classLink own index C ∈ WALL) (hinst : Cond.instantiable C N ∈ WALL) (hini : Cond.initialized C ∈ WALL) (hG : GS D cy A s) (hM : MC D cy z0 A s.heap σ H locs) (hci : ci < 10) (hc : vwCl[ci]? = some (C, T, N)) (hN : N = (sg ci).length)
    (hdv : ∀ j, j < N → defaultValue (ty j) = if (sg ci).getD j 0 = 0 then .int 0 else if (sg ci).getD j 0 = 1 then .long 0 else .null) (hcells : cells + 1 ≤ R.cells) (hslots : slots + N ≤ R.slots) (hdg : decode cc pc = .ok (.new index, 3))
    (kk : ∀ H : Heap, MC D cy z0 A s.heap (al σ ci 0) H locs → W p l e R s m args below meth c H locs (cells + 1) (slots + N) Q (F0 m (pc + 3) ls (va_rf (Option.map (adz z0) (some (gN σ))) :: rest))) : W p l e R s m args below meth c H locs cells slots Q (F0 m pc ls rest) := by
  have hts := hC.2.2.2.2
  have hKn := hG.1.1 ci _ hc
  refine W.newcK hC.1 hC.2.1 hC.2.2.2.1 (hts _ hcl) (hts _ hinst) (hts _ hini) rfl hdg hcells hslots hKn.2.1 hM.2.2.2 fun H1 kC hkC e1 z1 o1 => ?_
  refine kk H1 (MS.al hM hG.2.2.2 rfl ?_ z1 o1)
  rw [cellOf_obj cy (adz z0) (k := ci) (by simp [al]) hci]
  refine ⟨_, hc, (u_born ty hts hin hKn hkC e1 hty).to (fun j hj => ?_)⟩
  rw [hdv j hj]
  simp only [vp_V, List.getD_eq_getElem?_getD]
  rw [fs_get _ _ _ (by rw [← hN]; exact hj)]
  simp [fv, gI, gJ, gR, al]
  split
  · rfl
  · split
    · rfl
    · rfl
theorem m_putF {own C : String} {T : u_T} {N ci index : Nat} {v x : Option Nat} {τ : Mem} {ty : FieldType} (hC : CallFix p m c cc nL s args WALL own) (hin : ∀ w ∈ u_ws C T N, w ∈ WALL) (ty0 : Nat → FieldType) (hty : ∀ k, k < N → parseFieldDescriptor (T k).2.2.1 = some (ty0 k)) (hnm : ∀ a, a < N → ∀ b, b < N → a ≠ b → (T a).2.1 ≠ (T b).2.1) (hG : GS D cy A s) (hM : MC D cy z0 A s.heap σ H locs) (k : Nat) (e1 : pR σ ci k v x = some τ) (hci : ci < 10) (hc : vwCl[ci]? = some (C, T, N)) (hN : N = (sg ci).length) (hkN : k < N) (ht : (sg ci).getD k 0 = 2) (hlink : Cond.fieldLink own index C (T k).2.1 (T k).2.2.1 ∈ WALL) (hdecl0 : (T k).1 = C) (hfin : (T k).2.2.2 = true) (hin2 : meth.name = "<init>") (hdecl : (T k).1 = own) (hd : parseFieldDescriptor (T k).2.2.1 = some ty) (hn : ∀ r : Option Nat, narrow ty (va_rf r) = va_rf r ∧ fits ty (va_rf r) = true) (hdg : decode cc pc = .ok (.putfield index, 3))
    (kk : ∀ (H : Heap) (locs : List Loc), MC D cy z0 A s.heap τ H locs → W p l e R s m args below meth c H locs cells slots Q (F0 m (pc + 3) ls rest)) : W p l e R s m args below meth c H locs cells slots Q (F0 m pc ls (va_rf (Option.map (adz z0) x) :: va_rf (Option.map (adz z0) v) :: rest)) := by
  obtain ⟨a, rfl, hk, rfl⟩ := pR_some e1
  obtain ⟨h1, h2⟩ := kd_lt hk (by omega)
  have hts := hC.2.2.2.2
  have hown := hC.2.2.2.1
  have hK := hG.1
  have hap := va_apart (own := own) hts hin ty0 hty hnm hK hc
  have he : (MM cy (adz z0) σ)[a]? = some (adz z0 a, .inr (ci, fsOf (adz z0) σ a ci)) := by rw [MM_get cy (adz z0) h1, cellOf_obj cy (adz z0) h2 hci]
  have hl : k < (fsOf (adz z0) σ a ci).length := by rw [fs_len]; omega
  obtain ⟨r, g1, cell, q1, q2, q3, q4⟩ := hM.1 a _ he
  have hr : r = (C, T, N) := Option.some.inj (g1.symm.trans hc)
  subst hr
  obtain ⟨hS, hfc, kC, hkC, hkind⟩ := hK.1 ci _ hc
  obtain ⟨cf, kf, fi, f, hi, hsl⟩ := hS k hkN
  have hlay := hts _ (hin _ (u_in_lay hkN))
  unfold u_lay at hlay
  rw [if_pos hfin] at hlay
  have hst := (u_facts hfc hkC (u_lays hts hin hkN) hi).1
  have hcf : m.cls = cf := by
    obtain ⟨_, _, c', _, _, _, -, -, hf', -, -, -, hown2, -⟩ := Cond.laysFinal_spec hlay
    have e1 : c' = cf := by have := hi.symm.trans hf'; simp at this; exact this.1.symm
    rw [hdecl] at hown2
    rw [← e1]; exact Option.some.inj (hown.symm.trans hown2)
  have h6 := u_fits hfc hkC hkind (Or.inr hlay) hi hd (hn (Option.map (adz z0) x)).1 (hn _).2
  refine W.putFinK hC.1 hC.2.1 hown (hts _ hlink) (by rw [← hdecl0]; exact hi) hst hcf hin2 (by rw [q2]; exact h6) q1 q3 (by rw [hsl]; exact k2_hasslot (q4 k hkN)) rfl rfl hdg fun H' e1 e2 e3 => ?_
  rw [hsl] at e1 ⊢
  refine kk H' _ (hM.upd (σ' := sR σ a k x) h1 rfl (fun b hb => cellOf_sR hb) ?_ e2 e3)
  rw [cellOf_obj cy (adz z0) (σ := sR σ a k x) h2 hci, ← fs_sR (by omega) ht]
  exact ⟨_, hc, t_OB.to (V := updV (vp_V (fsOf (adz z0) σ a ci)) k (va_rf (Option.map (adz z0) x))) ⟨_, e1, q2, q3, t_set q4 hap hkN _⟩ (fun j _ => vp_updV_set hl _ j)⟩
theorem m_aast {kA t0 ci N : Nat} {C : String} {T : u_T} (hkA : kA = 14 ∨ kA = 15) (hx : p.tables.exec = Jvm.exec) (hb : c.code = cc) (hG : GS D cy A s) (hty : (tyL cy)[t0]? = some (cy kA, .object C)) (hci : ci < 10) (hc : vwCl[ci]? = some (C, T, N)) (hM : MC D cy z0 A s.heap σ H locs) {v x : Option Nat} {i : Int32} {τ : Mem} (e1 : wR σ kA ci v i x = some τ) (hdg : decode cc pc = .ok (.aastore, 1))
    (kk : ∀ (H : Heap) (locs : List Loc), MC D cy z0 A s.heap τ H locs → W p l e R s m args below meth c H locs cells slots Q (F0 m (pc + 1) ls rest)) : W p l e R s m args below meth c H locs cells slots Q (F0 m pc ls (va_rf (Option.map (adz z0) x) :: .int i :: va_rf (Option.map (adz z0) v) :: rest)) := by
  obtain ⟨a, d, rfl, rfl, hk, hkd, hin, rfl⟩ := wR_some e1
  obtain ⟨h1, h2⟩ := kd_lt hk (by omega)
  obtain ⟨h3, h4⟩ := kd_lt hkd (by omega)
  have ha : (MM cy (adz z0) σ)[a]? = some (adz z0 a, .inl (cy kA, gL σ a, .inr (.inr (.inr (.inr (fun i => (gR σ a i).map (adz z0))))))) := by rw [MM_get cy (adz z0) h1, cellOf_R cy (adz z0) h2 hkA]
  have hd : (MM cy (adz z0) σ)[d]? = some (adz z0 d, .inr (ci, fsOf (adz z0) σ d ci)) := by rw [MM_get cy (adz z0) h3, cellOf_obj cy (adz z0) h4 hci]
  have hlt : i.toNatClampNeg < gL σ a := Nat.not_le.mp fun q => hin (Or.inr q)
  have h0 : ¬ i < 0 := fun q => hin (Or.inl q)
  obtain ⟨r', hr', cellV, g1, g2, g3, -⟩ := hM.1 d _ hd
  have hcls := (hG.1.1 ci _ hc).2
  obtain ⟨kA2, comp, k1, k2, k3, -⟩ := (hG.1.2 t0 _ hty).2
  have hcomp : comp = D.1 ci := Option.some.inj (k3.symm.trans hcls.1)
  subst hcomp
  obtain ⟨kC, hkC, -⟩ := id hcls.2
  refine W.aast hx hb (hM.1 a _ ha) (fun q h => by cases h) (fun h => by cases h) k1 k2 rfl hkC ⟨h0, by show _ < (arrV _ _ _).slots.size; rw [arrV_size]; exact hlt⟩ g1 (fun q h => by rw [g3] at h; cases h) (by rw [g2]; exact hkC) (by rw [g2]; exact va_assign hcls) rfl rfl hdg fun H1 e z oq => ?_
  refine kk H1 _ (hM.upd (σ' := sR σ a i.toNatClampNeg (some d)) h1 rfl (fun b hb => cellOf_sR hb) ?_ z oq)
  rw [cellOf_R cy (adz z0) (σ := sR σ a i.toNatClampNeg (some d)) h2 hkA]
  show H1[adz z0 a]? = some (vp_cell _ _)
  rw [e]
  rw [vp_cell_q, vp_cell_q, arrV_store]
  congr 2
  funext q
  by_cases hq : q = i.toNatClampNeg
  · subst hq
    simp [updV, gR, sR, va_rf]
  · simp [updV, gR, sR, hq]
theorem callV_Vc {own : String} {index n d : Nat} {y : MethodName} {cb : ByteArray} {ret : Option FieldType} {τ : Mem} {v : Option Nat} {b ci N : Nat} {C : String} {T : u_T} (hcs : cells ≤ R.cells ∧ slots ≤ R.slots) (ek : kT σ ci v = some b) (hci : ci < 10) (hcl : vwCl[ci]? = some (C, T, N)) (hl : Cond.methodLink own index y ∈ WALL) (hin : Cond.instanceMethod y ∈ WALL) (hse : Cond.selects C y y ∈ WALL) (hyC : y.cls = C) (hini : Cond.initialized y.cls ∈ WALL) (hcd : Cond.code y cb n ret ∈ WALL) (hd : y.cls ≠ "java/lang/invoke/MethodHandle" ∧ y.cls ≠ "java/lang/invoke/VarHandle" ∧ (parseMethodDescriptor y.desc).map (fun d => d.parameters.length) = some 0) (hC : CallFix p m c cc nL s args WALL own) (hG : GS D cy A s) (hM : MC D cy z0 A s.heap σ H locs) (hct : CtV l y cb n ret d [.ref (adz z0 b)] D cy (adz z0) A (z0 + gN σ) σ () τ) (hN : gN τ = gN σ) (hR : d + 1 ≤ R.frames ∧ 8 + (n + 11) + 36 * d ≤ R.locals) (hsz : ls.size = nL) (hW : (rest.map fun v => v.category).sum ≤ 8) (hdg : decode cc pc = .ok (.invokevirtual index, 3))
    (kk : ∀ (H : Heap) (locs : List Loc), MC D cy z0 A s.heap τ H locs → W p l e R s m args below meth c H locs cells slots Q (F0 m (pc + 3) ls rest)) : W p l e R s m args below meth c H locs cells slots Q (F0 m pc ls (va_rf (Option.map (adz z0) v) :: rest)) := by
  obtain ⟨rfl, hk⟩ := kT_some ek
  obtain ⟨h1, h2⟩ := kd_lt hk (by omega)
  refine va_callv (va_runV (As := []) (rest := rest) hC hct (cwV 0 hC.2.2.2.2 (WALL_cons hl (WALL_cons hin (WALL_cons hse (WALL_cons (hyC ▸ hini) (WALL_code hcd))))) rfl rfl rfl ⟨hyC, hd⟩ hR) ⟨Pr.blind, va_recv hG.1 hM.1 hcl (by rw [MM_get cy (adz z0) h1, cellOf_obj cy (adz z0) h2 hci]), fun U hU hW => ⟨rfl, hM.pre hG U hU hW⟩⟩ rfl rfl hsz rfl (lv_room hW) hdg ⟨hcs.1, hcs.2⟩) hM.2.2.1 (fun q _ h => h) (fun q h => h) (fun u t H1 locs1 ht hvm hw hB hz1 hk1 hS => ?_)
  subst hw
  exact kk H1 locs1 (by rw [MC, hN]; exact MS.post hB ht hS)
theorem callI_N {own : String} {index n d mc ms : Nat} {y : MethodName} {cb : ByteArray} {As : List Value} {τ : Mem} {v : Option Nat} {b : Nat} {st : List Value} (hcs : cells + mc ≤ R.cells ∧ slots + ms ≤ R.slots) (hv : v = some b) (hl : Cond.methodLink own index y ∈ WALL) (hin : Cond.instanceMethod y ∈ WALL) (hy1 : y.name = "<init>") (hini : Cond.initialized y.cls ∈ WALL) (hcd : Cond.code y cb n none ∈ WALL) (hd : y.cls ≠ "java/lang/invoke/MethodHandle" ∧ y.cls ≠ "java/lang/invoke/VarHandle" ∧ (parseMethodDescriptor y.desc).map (fun d => d.parameters.length) = some As.length) (hC : CallFix p m c cc nL s args WALL own) (hG : GC D cy A s) (hM : MC D cy z0 A s.heap σ H locs) (hct : CtN l y cb n d mc ms (.ref (adz z0 b) :: As) D cy z0 A σ τ) (hR : d + 1 ≤ R.frames ∧ 8 + (n + 11) + 36 * d ≤ R.locals) (hsz : ls.size = nL) (hW : (rest.map fun v => v.category).sum ≤ 8) (hdg : decode cc pc = .ok (.invokespecial index, 3)) (hst0 : st = As.reverse ++ va_rf (Option.map (adz z0) v) :: rest)
    (kk : ∀ (H : Heap) (locs : List Loc), MC D cy z0 A s.heap τ H locs → W p l e R s m args below meth c H locs (cells + mc) (slots + ms) Q (F0 m (pc + 3) ls rest)) : W p l e R s m args below meth c H locs cells slots Q (F0 m pc ls st) := by
  subst hst0
  subst hv
  refine va_callv (va_runI (As := As) (rest := rest) hC hct (cwI As.length hC.2.2.2.2 (WALL_code hcd) rfl rfl rfl (hC.2.2.2.2 _ hini) (hC.2.2.2.2 _ hl) (hC.2.2.2.2 _ hin) hy1 hd hR) ⟨PrC.blind, fun U hU hW => ⟨rfl, by rw [hU]; exact hM.1, hM.2.1, by rw [hU]; exact hM.2.2.2, hG.at hM.2.2.1 hU hW⟩⟩ rfl rfl hsz rfl (lv_room hW) hdg hcs) hM.2.2.1 (fun q _ h => h) (fun q h => h) (fun u t H1 locs1 ht hvm hw hB hz1 hk1 hS => ?_)
  subst hw
  exact kk H1 locs1 (MS.post hB ht hS)
theorem callIN_N {own host : String} {index n d mc ms : Nat} {y : MethodName} {cb : ByteArray} {As : List Value} {τ : Mem} {v : Option Nat} {b : Nat} {st : List Value} (hcs : cells + mc ≤ R.cells ∧ slots + ms ≤ R.slots) (hv : v = some b) (hl : Cond.methodLinkNest own index y host ∈ NWL) (hin : Cond.instanceMethod y ∈ WALL) (hy1 : y.name = "<init>") (hini : Cond.initialized y.cls ∈ WALL) (hcd : Cond.code y cb n none ∈ WALL) (hd : y.cls ≠ "java/lang/invoke/MethodHandle" ∧ y.cls ≠ "java/lang/invoke/VarHandle" ∧ (parseMethodDescriptor y.desc).map (fun d => d.parameters.length) = some As.length) (hC : CallFix p m c cc nL s args WALL own) (hG : GC D cy A s) (hM : MC D cy z0 A s.heap σ H locs) (hct : CtN l y cb n d mc ms (.ref (adz z0 b) :: As) D cy z0 A σ τ) (hR : d + 1 ≤ R.frames ∧ 8 + (n + 11) + 36 * d ≤ R.locals) (hsz : ls.size = nL) (hW : (rest.map fun v => v.category).sum ≤ 8) (hdg : decode cc pc = .ok (.invokespecial index, 3)) (hst0 : st = As.reverse ++ va_rf (Option.map (adz z0) v) :: rest)
    (kk : ∀ (H : Heap) (locs : List Loc), MC D cy z0 A s.heap τ H locs → W p l e R s m args below meth c H locs (cells + mc) (slots + ms) Q (F0 m (pc + 3) ls rest)) : W p l e R s m args below meth c H locs cells slots Q (F0 m pc ls st) := by
  subst hst0
  subst hv
  refine va_callv (va_runIN (As := As) (rest := rest) hC hct ⟨va_cnB As.length hC.2.2.2.2 (WALL_code hcd) rfl rfl rfl (hG.1.2.1 _ hl) (hC.2.2.2.2 _ hini) hd hR, hy1, hC.2.2.2.2 _ hin⟩ ⟨PrC.blind, fun U hU hW => ⟨rfl, by rw [hU]; exact hM.1, hM.2.1, by rw [hU]; exact hM.2.2.2, hG.at hM.2.2.1 hU hW⟩⟩ rfl rfl hsz rfl (lv_room hW) hdg hcs) hM.2.2.1 (fun q _ h => h) (fun q h => h) (fun u t H1 locs1 ht hvm hw hB hz1 hk1 hS => ?_)
  subst hw
  exact kk H1 locs1 (MS.post hB ht hS)
end RN
def KrN (p : Program) (l : Launch) (e : Env) (R : Room) (s : State) (m : MethodId) (args : Array Value) (below : List Frame) (meth : Method) (c : Code) (cc : ByteArray) (Q : State → Prop) (D : va_G) (cy : Nat → ClassId) (z0 : Nat) (A : Nat → Prop) (mc ms : Nat) (σ' : Mem) : Prop :=
  ∀ (H : Heap) (locs : List Loc) (pc : Nat) (ls : Array Slot), decode cc pc = .ok (.return_, 1) → MC D cy z0 A s.heap σ' H locs → W p l e R s m args below meth c H locs mc ms Q (F0 m pc ls [])
theorem enterN {l : Launch} {D : va_G} {cy : Nat → ClassId} {z0 : Nat} {A : Nat → Prop} {σ : Mem} {y : MethodName} {cb : ByteArray} {n d mc ms : Nat} {own : String} {av : List Value} {σ' : Mem} (hy : plainName y.cls = true) (ho : y.cls = own) (hyn : y.name = "<init>") (hn : (lg_sl av).length ≤ n)
    (body : ∀ (p : Program) (e : Env) (s : State) (m : MethodId) (below : List Frame) (meth : Method) (c : Code) (Q : State → Prop) (ls : Array Slot), CallFix p m c cb n s av.toArray WALL own → GC D cy A s → MC D cy z0 A s.heap σ s.heap [] → meth.name = "<init>" → KrN p l e (rmC d mc ms) s m av.toArray below meth c cb Q D cy z0 A mc ms σ' → lv_has ls n (lv_args 0 av) → W p l e (rmC d mc ms) s m av.toArray below meth c s.heap [] 0 0 Q (F0 m 0 ls [])) : CtN l y cb n d mc ms av D cy z0 A σ σ' := by
  refine Met.ofW (cc := cb) (maxL := n) (ret := none) hy rfl ?_
  intro p e s m args below meth c s₁ B hml hv
  obtain ⟨rfl, hP, hD, hz, hG⟩ := hv
  have hx := B.exec
  have hb := B.bytes
  have hr := B.returns
  have hts := atoms_spec (ws := Cond.code y cb n none :: WALL) B.pre
  have hown : s.vm.findClass own = some m.cls := by rw [← ho]; exact findClass_of_methodNamed B.named
  have hlocks := B.notSynchronized
  have hin : meth.name = "<init>" := (name_of_methodNamed B.named B.method).1.trans hyn
  have hl := lv_entry av (n := n) hn
  rw [lg_entry_eq]
  refine body p e s m below meth c _ _ ⟨hx, hb, hml, hown, fun w hw => hts w (List.mem_cons_of_mem _ hw)⟩ hG ⟨hP, hD, va_S.rf, hz⟩ hin ?_ hl
  intro H locs pc ls hdg hM
  exact W.vret hx hb hr (fun t ht hW => ⟨⟨σ', rfl, rfl, by rw [ht]; exact hM.1, hM.2.1, by rw [ht]; exact hM.2.2.2⟩, hM.2.2.1.F ht⟩) hM.2.2.1.2.2 hdg hlocks
