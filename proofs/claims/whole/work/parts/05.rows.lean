def WALL : List Cond := lw_tbl.filter goodWord
theorem WALL_good : GoodIn WALL WALL := fun w h => ⟨h, good_of_word (List.mem_filter.mp h).2⟩
theorem WALL_of {w : Cond} (h : w ∈ lw_tbl) (hg : goodWord w = true) : w ∈ WALL := List.mem_filter.mpr ⟨h, hg⟩
theorem WALL_code {y : MethodName} {cb : ByteArray} {n : Nat} {rt : Option FieldType} (h : Cond.code y cb n rt ∈ WALL) : GoodIn WALL (Cond.code y cb n rt :: WALL) := fun w hw => (List.mem_cons.mp hw).elim (fun e => by rw [e]; exact WALL_good _ h) (WALL_good w)
theorem WALL_cons {w : Cond} {ws : List Cond} (h : w ∈ WALL) (hw : GoodIn WALL ws) : GoodIn WALL (w :: ws) := fun v hv => (List.mem_cons.mp hv).elim (fun e => by rw [e]; exact WALL_good _ h) (hw v)
/-- links between nest mates -/
def isNest : Cond → Bool
  | .fieldLinkNest _ _ _ _ _ _ => true
  | .methodLinkNest _ _ _ _ => true
  | _ => false
def NWL : List Cond := lw_tbl.filter isNest
def NW (U : State) : Prop := ∀ w ∈ NWL, va_Nw w U
theorem NW.warm {s U : State} (h : NW s) (hW : s.WarmedH U.vm) : NW U := by
  intro w hw
  have h1 := h w hw
  have h2 := (List.mem_filter.mp hw).2
  cases w <;> first | exact va_Nw.warmF hW h1 | exact va_Nw.warmM hW h1 | cases h2
theorem NW.same {u U : State} (h : NW u) (e : u.vm = U.vm) : NW U := by
  intro w hw
  have h1 := h w hw
  have h2 := (List.mem_filter.mp hw).2
  cases w <;> first | exact va_Nw.same rfl e h1 | cases h2
theorem NW_of {w : Cond} (h : w ∈ lw_tbl) (hg : isNest w = true) : w ∈ NWL := List.mem_filter.mpr ⟨h, hg⟩
/-- the statics: the words' long values of the model, the letters of the reader's words -/
def stL : List (String × Int64) := [("PLAN", 323717), ("FEE", 4514), ("TERM", 397804), ("FROM", 131638), ("UNTIL", 11450658), ("FOR", 4797), ("FREE", 131360), ("TO", 555), ("AT", 47), ("REST", 358472)]
def wLet : Nat → Int64 := fun k => match k with
  | 0 => 1886151022 | 1 => 6710629 | 2 => 1952805485 | 3 => 1718775661 | 4 => 504364296556 | 5 => 6713202 | 6 => 1718773093 | 7 => 29807 | 8 => 24948 | _ => 1919251316
def ZS (A : Nat → Prop) (U : State) (H : Heap) : Prop := (∀ q ∈ stL, va_Z RX9 q.1 "J" (.long q.2) A U H) ∧ ∃ t : Nat, va_Z RX4 "WORD_LETTERS" "[J" (.ref t) A U H ∧ va_T .long t 10 (fun j => .long (wLet j)) A U H
theorem ZS.moved {A : Nat → Prop} {u U : State} {H : Heap} (hvm : u.vm.Alike U.vm) (h : ZS A u H) : ZS A U H := by
  obtain ⟨h1, t, h2, h3⟩ := h
  exact ⟨fun q hq => va_Z.moved hvm (h1 q hq), t, va_Z.moved hvm h2, va_T.moved hvm h3⟩
theorem ZS.kept {A : Nat → Prop} {U : State} {H H1 : Heap} (h : ZS A U H) (hq : ∀ a : Nat, a < H.size → ¬ A a → H1[a]? = H[a]?) : ZS A U H1 := by
  obtain ⟨h1, t, h2, h3⟩ := h
  exact ⟨fun q hq' => va_Z.kept (h1 q hq') hq, t, va_Z.kept h2 hq, va_T.kept h3 hq⟩
def GS (D : va_G) (cy : Nat → ClassId) (A : Nat → Prop) (U : State) : Prop := va_K D vwCl (tyL cy) U ∧ NW U ∧ ZS A U U.heap ∧ ∀ q : Nat, U.heap.size ≤ q → A q
def Pr (D : va_G) (cy : Nat → ClassId) (ad : Nat → Nat) (A : Nat → Prop) (z : Nat) (σ : Mem) (U : State) : Prop := va_P D vwCl (MM cy ad σ) U.heap ∧ va_D A (MM cy ad σ) ∧ U.heap.size = z ∧ GS D cy A U
def Po (D : va_G) (cy : Nat → ClassId) (ad : Nat → Nat) (A : Nat → Prop) (z : Nat) (τ : Mem) (t : State) : Prop := va_P D vwCl (MM cy ad τ) t.heap ∧ va_D A (MM cy ad τ) ∧ t.heap.size = z
theorem GS.calling {D : va_G} {cy : Nat → ClassId} {A : Nat → Prop} {U : State} (h : GS D cy A U) (g : JFrame) (mk : MethodId) (a : Array Value) : GS D cy A (U.calling g mk a) := by
  obtain ⟨h1, h2, h3, h4⟩ := h
  exact ⟨va_K.moved (u := U) (U := U.calling g mk a) (Vm.Alike.refl U.vm) h1, NW.same (u := U) (U := U.calling g mk a) h2 rfl, ZS.moved (u := U) (U := U.calling g mk a) (Vm.Alike.refl U.vm) h3, h4⟩
theorem GS.at {D : va_G} {cy : Nat → ClassId} {A : Nat → Prop} {s U : State} {H : Heap} {locs : List Loc} (h : GS D cy A s) (hS : va_S A s.heap H locs) (hU : U.heap = H) (hW : s.WarmedH U.vm) : GS D cy A U := by
  obtain ⟨h1, h2, h3, h4⟩ := h
  refine ⟨va_K.moved hW.alike h1, h2.warm hW, ?_, fun q hq => h4 q (Nat.le_trans hS.1 (by rw [← hU]; exact hq))⟩
  rw [hU]
  exact (h3.moved hW.alike).kept hS.2.1
abbrev rm (d : Nat) : Room := { frames := d, cells := 0, slots := 0, locals := 36 * d }
theorem Pr.blind {D : va_G} {cy : Nat → ClassId} {ad : Nat → Nat} {A : Nat → Prop} {z : Nat} {σ : Mem} {av : List Value} : FrameBlind (va_Pc av (Pr D cy ad A z σ)) := by
  intro a U g mk h
  obtain ⟨q0, qP, qD, qz, qG⟩ := h
  exact ⟨q0, qP, qD, qz, qG.calling g mk a⟩
theorem MS.pre {D : va_G} {cy : Nat → ClassId} {ad : Nat → Nat} {A : Nat → Prop} {z : Nat} {σ : Mem} {s : State} {H : Heap} {locs : List Loc} (hM : MS D cy ad A s.heap z σ H locs) (hG : GS D cy A s) : ∀ U : State, U.heap = H → s.WarmedH U.vm → Pr D cy ad A z σ U := by
  intro U hU hW
  exact ⟨by rw [hU]; exact hM.1, hM.2.1, by rw [hU]; exact hM.2.2.2, hG.at hM.2.2.1 hU hW⟩
theorem MS.post {D : va_G} {cy : Nat → ClassId} {ad : Nat → Nat} {A : Nat → Prop} {z : Nat} {τ : Mem} {t : State} {H0 H : Heap} {locs : List Loc} (h : Po D cy ad A z τ t) (ht : t.heap = H) (hS : va_S A H0 H locs) : MS D cy ad A H0 z τ H locs := by
  obtain ⟨h1, h2, h3⟩ := h
  rw [ht] at h1 h3
  exact ⟨h1, h2, hS, h3⟩
/-- contracts: int, long, void, a reference -/
abbrev CtI (l : Launch) (y : MethodName) (cb : ByteArray) (n : Nat) (rt : Option FieldType) (d : Nat) (av : List Value) (D : va_G) (cy : Nat → ClassId) (ad : Nat → Nat) (A : Nat → Prop) (z : Nat) (σ : Mem) (r : Int32) (σ' : Mem) : Prop :=
  Met l y (Cond.code y cb n rt :: WALL) (rm d) (va_Pc av (Pr D cy ad A z σ)) (va_Qi (fun (r0 : Int32) (τ : Mem) => r0 = r ∧ τ = σ') (Po D cy ad A z) A) 0 0 A
abbrev CtL (l : Launch) (y : MethodName) (cb : ByteArray) (n : Nat) (rt : Option FieldType) (d : Nat) (av : List Value) (D : va_G) (cy : Nat → ClassId) (ad : Nat → Nat) (A : Nat → Prop) (z : Nat) (σ : Mem) (r : Int64) (σ' : Mem) : Prop :=
  Met l y (Cond.code y cb n rt :: WALL) (rm d) (va_Pc av (Pr D cy ad A z σ)) (va_Ql (fun (r0 : Int64) (τ : Mem) => r0 = r ∧ τ = σ') (Po D cy ad A z) A) 0 0 A
abbrev CtV (l : Launch) (y : MethodName) (cb : ByteArray) (n : Nat) (rt : Option FieldType) (d : Nat) (av : List Value) (D : va_G) (cy : Nat → ClassId) (ad : Nat → Nat) (A : Nat → Prop) (z : Nat) (σ : Mem) (_ : Unit) (σ' : Mem) : Prop :=
  Met l y (Cond.code y cb n rt :: WALL) (rm d) (va_Pc av (Pr D cy ad A z σ)) (va_Qv (fun (τ : Mem) => τ = σ') (Po D cy ad A z) A) 0 0 A
abbrev CtR (l : Launch) (y : MethodName) (cb : ByteArray) (n : Nat) (rt : Option FieldType) (d : Nat) (av : List Value) (D : va_G) (cy : Nat → ClassId) (ad : Nat → Nat) (A : Nat → Prop) (z : Nat) (σ : Mem) (r : Option Nat) (σ' : Mem) : Prop :=
  Met l y (Cond.code y cb n rt :: WALL) (rm d) (va_Pc av (Pr D cy ad A z σ)) (va_Qq (fun (r0 : Option Nat) (τ : Mem) => r0 = r.map ad ∧ τ = σ') (Po D cy ad A z) A) 0 0 A
section RW
variable {p : Program} {l : Launch} {e : Env} {R : Room} {s : State} {m : MethodId} {args : Array Value} {below : List Frame} {meth : Method} {c : Code} {H : Heap} {locs : List Loc} {cells slots : Nat} {Q : State → Prop}
variable {cc : ByteArray} {pc : Nat} {ls : Array Slot} {rest : List Value} {D : va_G} {cy : Nat → ClassId} {ad : Nat → Nat} {A : Nat → Prop} {H0 : Heap} {z : Nat} {σ : Mem}
theorem m_get {nL : Nat} {own ref C : String} {T : u_T} {N ci index a : Nat} (hC : CallFix p m c cc nL s args WALL own) (hin : ∀ w ∈ u_ws C T N, w ∈ WALL) (hK : va_K D vwCl (tyL cy) s) (hM : MS D cy ad A H0 z σ H locs) (hk : kd σ a = ci) (hci : ci < 10) (hc : vwCl[ci]? = some (C, T, N)) (hN : N = (sg ci).length) (k : Nat) (hkN : k < N) (hlink : (Cond.fieldLink own index ref (T k).2.1 (T k).2.2.1).before args s = true) (hsame : ∀ x, s.fieldFound? (T k).1 (T k).2.1 (T k).2.2.1 = some x → s.fieldFound? ref (T k).2.1 (T k).2.2.1 = some x) (hdg : decode cc pc = .ok (.getfield index, 3))
    (kk : W p l e R s m args below meth c H locs cells slots Q (F0 m (pc + 3) ls (fv ad σ a k ((sg ci).getD k 0) :: rest))) : W p l e R s m args below meth c H locs cells slots Q (F0 m pc ls (.ref (ad a) :: rest)) := by
  obtain ⟨h1, h2⟩ := kd_lt hk (by omega)
  exact va_get hC.1 hC.2.1 hC.2.2.2.2 hin hC.2.2.2.1 hK hM.1 a (by rw [MM_get cy ad h1, cellOf_obj cy ad h2 hci]) hc k hkN hlink hsame (fs_get ad σ a (by omega)) hdg kk
theorem m_getN {nL : Nat} {own ref C host : String} {T : u_T} {N ci index a : Nat} (hC : CallFix p m c cc nL s args WALL own) (hin : ∀ w ∈ u_ws C T N, w ∈ WALL) (hK : va_K D vwCl (tyL cy) s) (hM : MS D cy ad A H0 z σ H locs) (hk : kd σ a = ci) (hci : ci < 10) (hc : vwCl[ci]? = some (C, T, N)) (hN : N = (sg ci).length) (k : Nat) (hkN : k < N) (hlink : va_Nw (Cond.fieldLinkNest own index ref (T k).2.1 (T k).2.2.1 host) s) (hsame : ∀ x, s.fieldFound? (T k).1 (T k).2.1 (T k).2.2.1 = some x → s.fieldFound? ref (T k).2.1 (T k).2.2.1 = some x) (hdg : decode cc pc = .ok (.getfield index, 3))
    (kk : W p l e R s m args below meth c H locs cells slots Q (F0 m (pc + 3) ls (fv ad σ a k ((sg ci).getD k 0) :: rest))) : W p l e R s m args below meth c H locs cells slots Q (F0 m pc ls (.ref (ad a) :: rest)) := by
  obtain ⟨h1, h2⟩ := kd_lt hk (by omega)
  exact va_getN hC.1 hC.2.1 hC.2.2.2.2 hin hC.2.2.2.1 hK hM.1 a (by rw [MM_get cy ad h1, cellOf_obj cy ad h2 hci]) hc k hkN (va_Nw.use rfl hlink) hsame (fs_get ad σ a (by omega)) hdg kk
theorem m_put {nL : Nat} {own ref C : String} {T : u_T} {N ci index a : Nat} {σ' : Mem} (hC : CallFix p m c cc nL s args WALL own) (hin : ∀ w ∈ u_ws C T N, w ∈ WALL) (ty0 : Nat → FieldType) (hty : ∀ k, k < N → parseFieldDescriptor (T k).2.2.1 = some (ty0 k)) (hnm : ∀ a, a < N → ∀ b, b < N → a ≠ b → (T a).2.1 ≠ (T b).2.1) (hK : va_K D vwCl (tyL cy) s) (hM : MS D cy ad A H0 z σ H locs) (hk : kd σ a = ci) (hci : ci < 10) (hc : vwCl[ci]? = some (C, T, N)) (hN : N = (sg ci).length) (k : Nat) (hkN : k < N) (hlink : (Cond.fieldLink own index ref (T k).2.1 (T k).2.2.1).before args s = true) (hsame : ∀ x, s.fieldFound? (T k).1 (T k).2.1 (T k).2.2.1 = some x → s.fieldFound? ref (T k).2.1 (T k).2.2.1 = some x) (hfin : (T k).2.2.2 = false) {ty : FieldType} {v : Value} (hd : parseFieldDescriptor (T k).2.2.1 = some ty) (hn : narrow ty v = v) (hfit : fits ty v = true)
    (hσ1 : σ'.1 = σ.1) (hσ2 : σ'.2.1 = σ.2.1) (ho : ∀ b, b ≠ a → cellOf cy ad σ' b = cellOf cy ad σ b) (hf : (fsOf ad σ a ci).set k v = fsOf ad σ' a ci) (hdg : decode cc pc = .ok (.putfield index, 3))
    (kk : ∀ (H1 : Heap) (locs1 : List Loc), MS D cy ad A H0 z σ' H1 locs1 → W p l e R s m args below meth c H1 locs1 cells slots Q (F0 m (pc + 3) ls rest)) : W p l e R s m args below meth c H locs cells slots Q (F0 m pc ls (v :: .ref (ad a) :: rest)) := by
  obtain ⟨h1, h2⟩ := kd_lt hk (by omega)
  have hts := hC.2.2.2.2
  have hap := va_apart (own := own) hts hin ty0 hty hnm hK hc
  have he : (MM cy ad σ)[a]? = some (ad a, .inr (ci, fsOf ad σ a ci)) := by rw [MM_get cy ad h1, cellOf_obj cy ad h2 hci]
  have hl : k < (fsOf ad σ a ci).length := by rw [fs_len]; omega
  obtain ⟨r, g1, cell, q1, q2, q3, q4⟩ := hM.1 a _ he
  have hr : r = (C, T, N) := Option.some.inj (g1.symm.trans hc)
  subst hr
  obtain ⟨hS, hfc, kC, hkC, hkind⟩ := hK.1 ci _ hc
  obtain ⟨cf, kf, fi, f, hi, hsl⟩ := hS k hkN
  have hlay := hts _ (hin _ (u_in_lay hkN))
  unfold u_lay at hlay
  rw [if_neg (by rw [hfin]; decide)] at hlay
  have hst := (u_facts hfc hkC (u_lays hts hin hkN) hi).1
  have h6 := u_store hfc hkC hkind hlay hi hd hn hfit
  refine W.putK hC.1 hC.2.1 (f := f) ⟨hC.2.2.2.1, hlink, ⟨_, _, _, hsame _ hi⟩, hst⟩ (by rw [q2]; exact h6) q1 q3 (by rw [hsl]; exact k2_hasslot (q4 k hkN)) rfl rfl hdg fun H' e1 e2 e3 => ?_
  rw [hsl] at e1 ⊢
  refine kk H' _ (hM.upd h1 hσ1 ho ?_ e2 e3)
  rw [cellOf_obj cy ad (σ := σ') (by rw [hσ2]; exact h2) hci, ← hf]
  exact ⟨_, hc, t_OB.to (V := updV (vp_V (fsOf ad σ a ci)) k v) ⟨_, e1, q2, q3, t_set q4 hap hkN v⟩ (fun j _ => vp_updV_set hl v j)⟩
theorem m_putN {nL : Nat} {own ref C host : String} {T : u_T} {N ci index a : Nat} {σ' : Mem} (hC : CallFix p m c cc nL s args WALL own) (hin : ∀ w ∈ u_ws C T N, w ∈ WALL) (ty0 : Nat → FieldType) (hty : ∀ k, k < N → parseFieldDescriptor (T k).2.2.1 = some (ty0 k)) (hnm : ∀ a, a < N → ∀ b, b < N → a ≠ b → (T a).2.1 ≠ (T b).2.1) (hK : va_K D vwCl (tyL cy) s) (hM : MS D cy ad A H0 z σ H locs) (hk : kd σ a = ci) (hci : ci < 10) (hc : vwCl[ci]? = some (C, T, N)) (hN : N = (sg ci).length) (k : Nat) (hkN : k < N) (hlink : va_Nw (Cond.fieldLinkNest own index ref (T k).2.1 (T k).2.2.1 host) s) (hsame : ∀ x, s.fieldFound? (T k).1 (T k).2.1 (T k).2.2.1 = some x → s.fieldFound? ref (T k).2.1 (T k).2.2.1 = some x) (hfin : (T k).2.2.2 = false) {ty : FieldType} {v : Value} (hd : parseFieldDescriptor (T k).2.2.1 = some ty) (hn : narrow ty v = v) (hfit : fits ty v = true)
    (hσ1 : σ'.1 = σ.1) (hσ2 : σ'.2.1 = σ.2.1) (ho : ∀ b, b ≠ a → cellOf cy ad σ' b = cellOf cy ad σ b) (hf : (fsOf ad σ a ci).set k v = fsOf ad σ' a ci) (hdg : decode cc pc = .ok (.putfield index, 3))
    (kk : ∀ (H1 : Heap) (locs1 : List Loc), MS D cy ad A H0 z σ' H1 locs1 → W p l e R s m args below meth c H1 locs1 cells slots Q (F0 m (pc + 3) ls rest)) : W p l e R s m args below meth c H locs cells slots Q (F0 m pc ls (v :: .ref (ad a) :: rest)) := by
  obtain ⟨h1, h2⟩ := kd_lt hk (by omega)
  have hts := hC.2.2.2.2
  have hap := va_apart (own := own) hts hin ty0 hty hnm hK hc
  have he : (MM cy ad σ)[a]? = some (ad a, .inr (ci, fsOf ad σ a ci)) := by rw [MM_get cy ad h1, cellOf_obj cy ad h2 hci]
  have hl : k < (fsOf ad σ a ci).length := by rw [fs_len]; omega
  obtain ⟨r, g1, cell, q1, q2, q3, q4⟩ := hM.1 a _ he
  have hr : r = (C, T, N) := Option.some.inj (g1.symm.trans hc)
  subst hr
  obtain ⟨hS, hfc, kC, hkC, hkind⟩ := hK.1 ci _ hc
  obtain ⟨cf, kf, fi, f, hi, hsl⟩ := hS k hkN
  have hlay := hts _ (hin _ (u_in_lay hkN))
  unfold u_lay at hlay
  rw [if_neg (by rw [hfin]; decide)] at hlay
  have hst := (u_facts hfc hkC (u_lays hts hin hkN) hi).1
  have h6 := u_store hfc hkC hkind hlay hi hd hn hfit
  refine va_WputK hC.1 hC.2.1 (f := f) hC.2.2.2.1 (va_Nw.use rfl hlink) (hsame _ hi) hst (by rw [q2]; exact h6) q1 q3 (by rw [hsl]; exact k2_hasslot (q4 k hkN)) rfl rfl hdg fun H' e1 e2 e3 => ?_
  rw [hsl] at e1 ⊢
  refine kk H' _ (hM.upd h1 hσ1 ho ?_ e2 e3)
  rw [cellOf_obj cy ad (σ := σ') (by rw [hσ2]; exact h2) hci, ← hf]
  exact ⟨_, hc, t_OB.to (V := updV (vp_V (fsOf ad σ a ci)) k v) ⟨_, e1, q2, q3, t_set q4 hap hkN v⟩ (fun j _ => vp_updV_set hl v j)⟩
theorem fs_sI {a k ci : Nat} {x : Int32} (hk : k < (sg ci).length) (ht : (sg ci).getD k 0 = 0) : (fsOf ad σ a ci).set k (.int x) = fsOf ad (sI σ a k x) a ci :=
  fs_set hk (by rw [ht]; simp [fv, gI, sI]) (fun i hi _ => fv_sI (fun q => hi q.2))
theorem fs_sJ {a k ci : Nat} {x : Int64} (hk : k < (sg ci).length) (ht : (sg ci).getD k 0 = 1) : (fsOf ad σ a ci).set k (.long x) = fsOf ad (sJ σ a k x) a ci :=
  fs_set hk (by rw [ht]; simp [fv, gJ, sJ]) (fun i hi _ => fv_sJ (fun q => hi q.2))
theorem fs_sR {a k ci : Nat} {x : Option Nat} (hk : k < (sg ci).length) (ht : (sg ci).getD k 0 = 2) : (fsOf ad σ a ci).set k (va_rf (x.map ad)) = fsOf ad (sR σ a k x) a ci :=
  fs_set hk (by rw [ht]; simp [fv, gR, sR]) (fun i hi _ => fv_sR (fun q => hi q.2))
theorem m_iald {a : Nat} (hx : p.tables.exec = Jvm.exec) (hb : c.code = cc) (hK : va_K D vwCl (tyL cy) s) (hM : MS D cy ad A H0 z σ H locs) (hk : kd σ a = 11) {i : Int32} (hin : vp_in i (gL σ a)) (hdg : decode cc pc = .ok (.iaload, 1))
    (kk : W p l e R s m args below meth c H locs cells slots Q (F0 m (pc + 1) ls (.int (gI σ a i.toNatClampNeg) :: rest))) : W p l e R s m args below meth c H locs cells slots Q (F0 m pc ls (.int i :: .ref (ad a) :: rest)) := by
  obtain ⟨h1, h2⟩ := kd_lt hk (by omega)
  exact va_iald hx hb hK hM.1 a 1 (by rw [MM_get cy ad h1, cellOf_I cy ad h2 (by decide)]) rfl hin hdg kk
theorem m_bald {a : Nat} (hx : p.tables.exec = Jvm.exec) (hb : c.code = cc) (hK : va_K D vwCl (tyL cy) s) (hM : MS D cy ad A H0 z σ H locs) (hk : kd σ a = 10) {i : Int32} (hin : vp_in i (gL σ a)) (hdg : decode cc pc = .ok (.baload, 1))
    (kk : W p l e R s m args below meth c H locs cells slots Q (F0 m (pc + 1) ls (.int (gI σ a i.toNatClampNeg) :: rest))) : W p l e R s m args below meth c H locs cells slots Q (F0 m pc ls (.int i :: .ref (ad a) :: rest)) := by
  obtain ⟨h1, h2⟩ := kd_lt hk (by omega)
  exact va_bald hx hb hK hM.1 a 0 (by rw [MM_get cy ad h1, cellOf_I cy ad h2 (by decide)]) rfl hin hdg kk
theorem m_zald {a : Nat} (hx : p.tables.exec = Jvm.exec) (hb : c.code = cc) (hK : va_K D vwCl (tyL cy) s) (hM : MS D cy ad A H0 z σ H locs) (hk : kd σ a = 13) {i : Int32} (hin : vp_in i (gL σ a)) (hdg : decode cc pc = .ok (.baload, 1))
    (kk : W p l e R s m args below meth c H locs cells slots Q (F0 m (pc + 1) ls (.int (gI σ a i.toNatClampNeg) :: rest))) : W p l e R s m args below meth c H locs cells slots Q (F0 m pc ls (.int i :: .ref (ad a) :: rest)) := by
  obtain ⟨h1, h2⟩ := kd_lt hk (by omega)
  exact va_zald hx hb hK hM.1 a 3 (by rw [MM_get cy ad h1, cellOf_I cy ad h2 (by decide)]) rfl hin hdg kk
theorem m_lald {a : Nat} (hx : p.tables.exec = Jvm.exec) (hb : c.code = cc) (hK : va_K D vwCl (tyL cy) s) (hM : MS D cy ad A H0 z σ H locs) (hk : kd σ a = 12) {i : Int32} (hin : vp_in i (gL σ a)) (hdg : decode cc pc = .ok (.laload, 1))
    (kk : W p l e R s m args below meth c H locs cells slots Q (F0 m (pc + 1) ls (.long (gJ σ a i.toNatClampNeg) :: rest))) : W p l e R s m args below meth c H locs cells slots Q (F0 m pc ls (.int i :: .ref (ad a) :: rest)) := by
  obtain ⟨h1, h2⟩ := kd_lt hk (by omega)
  exact va_lald hx hb hK hM.1 a 2 (by rw [MM_get cy ad h1, cellOf_J cy ad h2]) rfl hin hdg kk
theorem m_aald {a kR : Nat} (hkR : kR = 14 ∨ kR = 15) (hx : p.tables.exec = Jvm.exec) (hb : c.code = cc) (hK : va_K D vwCl (tyL cy) s) (hM : MS D cy ad A H0 z σ H locs) (hk : kd σ a = kR) {i : Int32} (hin : vp_in i (gL σ a)) (hdg : decode cc pc = .ok (.aaload, 1))
    (kk : W p l e R s m args below meth c H locs cells slots Q (F0 m (pc + 1) ls (va_rf ((gR σ a i.toNatClampNeg).map ad) :: rest))) : W p l e R s m args below meth c H locs cells slots Q (F0 m pc ls (.int i :: .ref (ad a) :: rest)) := by
  obtain ⟨h1, h2⟩ := kd_lt hk (by omega)
  rcases hkR with rfl | rfl
  · exact va_aldq hx hb hK hM.1 a 4 (by rw [MM_get cy ad h1, cellOf_R cy ad h2 (by decide)]) rfl hin hdg kk
  · exact va_aldq hx hb hK hM.1 a 5 (by rw [MM_get cy ad h1, cellOf_R cy ad h2 (by decide)]) rfl hin hdg kk
theorem m_alen {a kA : Nat} (hkA : kA = 10 ∨ kA = 11 ∨ kA = 13) (hx : p.tables.exec = Jvm.exec) (hb : c.code = cc) (hK : va_K D vwCl (tyL cy) s) (hM : MS D cy ad A H0 z σ H locs) (hk : kd σ a = kA) (hdg : decode cc pc = .ok (.arraylength, 1))
    (kk : W p l e R s m args below meth c H locs cells slots Q (F0 m (pc + 1) ls (.int (nI (gL σ a)) :: rest))) : W p l e R s m args below meth c H locs cells slots Q (F0 m pc ls (.ref (ad a) :: rest)) := by
  obtain ⟨h1, h2⟩ := kd_lt hk (by omega)
  have ha : (MM cy ad σ)[a]? = some (ad a, .inl (cy kA, gL σ a, .inl (gI σ a))) := by rw [MM_get cy ad h1, cellOf_I cy ad h2 hkA]
  rcases hkA with rfl | rfl | rfl
  · exact va_alen hx hb hK hM.1 a 0 ha rfl rfl hdg kk
  · exact va_alen hx hb hK hM.1 a 1 ha rfl rfl hdg kk
  · exact va_alen hx hb hK hM.1 a 3 ha rfl rfl hdg kk
theorem m_iast {a : Nat} (hx : p.tables.exec = Jvm.exec) (hb : c.code = cc) (hK : va_K D vwCl (tyL cy) s) (hM : MS D cy ad A H0 z σ H locs) (hk : kd σ a = 11) {i x : Int32} (hin : vp_in i (gL σ a)) (hdg : decode cc pc = .ok (.iastore, 1))
    (kk : ∀ (H1 : Heap) (locs1 : List Loc), MS D cy ad A H0 z (sI σ a i.toNatClampNeg x) H1 locs1 → W p l e R s m args below meth c H1 locs1 cells slots Q (F0 m (pc + 1) ls rest)) : W p l e R s m args below meth c H locs cells slots Q (F0 m pc ls (.int x :: .int i :: .ref (ad a) :: rest)) := by
  obtain ⟨h1, h2⟩ := kd_lt hk (by omega)
  have ha : (MM cy ad σ)[a]? = some (ad a, .inl (cy 11, gL σ a, .inl (gI σ a))) := by rw [MM_get cy ad h1, cellOf_I cy ad h2 (by decide)]
  refine W.iast hx hb (hM.1 a _ ha) ((hK.2 1 _ rfl).1 (gL σ a) (fun j => .int (gI σ a j))) (fun q => by cases q) (by show ¬ (i < 0 ∨ (arrV _ _ _).slots.size ≤ _); rw [arrV_size]; exact hin) rfl rfl hdg fun H1 e z oq => ?_
  refine kk H1 _ (hM.upd h1 rfl (fun b hb => cellOf_sI hb) ?_ z oq)
  rw [cellOf_I cy ad (σ := sI σ a _ x) h2 (by decide)]
  show H1[ad a]? = some (vp_cell _ _)
  rw [e]
  rw [vp_cell_i, vp_cell_i, arrV_store]
  congr 2
  funext q
  by_cases hq : q = i.toNatClampNeg
  · subst hq
    simp [updV, gI, sI]
  · simp [updV, gI, sI, hq]
theorem m_bast {a : Nat} (hx : p.tables.exec = Jvm.exec) (hb : c.code = cc) (hK : va_K D vwCl (tyL cy) s) (hM : MS D cy ad A H0 z σ H locs) (hk : kd σ a = 10) {i x : Int32} (hin : vp_in i (gL σ a)) (hdg : decode cc pc = .ok (.bastore, 1))
    (kk : ∀ (H1 : Heap) (locs1 : List Loc), MS D cy ad A H0 z (sI σ a i.toNatClampNeg (vp_nar .byte x)) H1 locs1 → W p l e R s m args below meth c H1 locs1 cells slots Q (F0 m (pc + 1) ls rest)) : W p l e R s m args below meth c H locs cells slots Q (F0 m pc ls (.int x :: .int i :: .ref (ad a) :: rest)) := by
  obtain ⟨h1, h2⟩ := kd_lt hk (by omega)
  have ha : (MM cy ad σ)[a]? = some (ad a, .inl (cy 10, gL σ a, .inl (gI σ a))) := by rw [MM_get cy ad h1, cellOf_I cy ad h2 (by decide)]
  refine W.bast hx hb (hM.1 a _ ha) ((hK.2 0 _ rfl).1 (gL σ a) (fun j => .int (gI σ a j))) (fun q => by cases q) (by show ¬ (i < 0 ∨ (arrV _ _ _).slots.size ≤ _); rw [arrV_size]; exact hin) rfl rfl hdg fun H1 e z oq => ?_
  refine kk H1 _ (hM.upd h1 rfl (fun b hb => cellOf_sI hb) ?_ z oq)
  rw [cellOf_I cy ad (σ := sI σ a _ (vp_nar .byte x)) h2 (by decide)]
  show H1[ad a]? = some (vp_cell _ _)
  rw [e]
  rw [vp_cell_i, vp_cell_i, arrV_store]
  congr 2
  funext q
  by_cases hq : q = i.toNatClampNeg
  · subst hq
    simp [updV, gI, sI, vp_nar]
    try rfl
  · simp [updV, gI, sI, hq]
theorem m_zast {a : Nat} (hx : p.tables.exec = Jvm.exec) (hb : c.code = cc) (hK : va_K D vwCl (tyL cy) s) (hM : MS D cy ad A H0 z σ H locs) (hk : kd σ a = 13) {i x : Int32} (hin : vp_in i (gL σ a)) (hdg : decode cc pc = .ok (.bastore, 1))
    (kk : ∀ (H1 : Heap) (locs1 : List Loc), MS D cy ad A H0 z (sI σ a i.toNatClampNeg (vp_nar .boolean x)) H1 locs1 → W p l e R s m args below meth c H1 locs1 cells slots Q (F0 m (pc + 1) ls rest)) : W p l e R s m args below meth c H locs cells slots Q (F0 m pc ls (.int x :: .int i :: .ref (ad a) :: rest)) := by
  obtain ⟨h1, h2⟩ := kd_lt hk (by omega)
  have ha : (MM cy ad σ)[a]? = some (ad a, .inl (cy 13, gL σ a, .inl (gI σ a))) := by rw [MM_get cy ad h1, cellOf_I cy ad h2 (by decide)]
  refine W.zast hx hb (hM.1 a _ ha) ((hK.2 3 _ rfl).1 (gL σ a) (fun j => .int (gI σ a j))) (fun q => by cases q) (by show ¬ (i < 0 ∨ (arrV _ _ _).slots.size ≤ _); rw [arrV_size]; exact hin) rfl rfl hdg fun H1 e z oq => ?_
  refine kk H1 _ (hM.upd h1 rfl (fun b hb => cellOf_sI hb) ?_ z oq)
  rw [cellOf_I cy ad (σ := sI σ a _ (vp_nar .boolean x)) h2 (by decide)]
  show H1[ad a]? = some (vp_cell _ _)
  rw [e]
  rw [vp_cell_i, vp_cell_i, arrV_store]
  congr 2
  funext q
  by_cases hq : q = i.toNatClampNeg
  · subst hq
    simp [updV, gI, sI, vp_nar]
    try rfl
  · simp [updV, gI, sI, hq]
theorem m_last {a : Nat} (hx : p.tables.exec = Jvm.exec) (hb : c.code = cc) (hK : va_K D vwCl (tyL cy) s) (hM : MS D cy ad A H0 z σ H locs) (hk : kd σ a = 12) {i : Int32} {x : Int64} (hin : vp_in i (gL σ a)) (hdg : decode cc pc = .ok (.lastore, 1))
    (kk : ∀ (H1 : Heap) (locs1 : List Loc), MS D cy ad A H0 z (sJ σ a i.toNatClampNeg x) H1 locs1 → W p l e R s m args below meth c H1 locs1 cells slots Q (F0 m (pc + 1) ls rest)) : W p l e R s m args below meth c H locs cells slots Q (F0 m pc ls (.long x :: .int i :: .ref (ad a) :: rest)) := by
  obtain ⟨h1, h2⟩ := kd_lt hk (by omega)
  have ha : (MM cy ad σ)[a]? = some (ad a, .inl (cy 12, gL σ a, .inr (.inl (gJ σ a)))) := by rw [MM_get cy ad h1, cellOf_J cy ad h2]
  refine W.last hx hb (hM.1 a _ ha) ((hK.2 2 _ rfl).1 (gL σ a) (fun j => .long (gJ σ a j))) (fun q => by cases q) (by show ¬ (i < 0 ∨ (arrV _ _ _).slots.size ≤ _); rw [arrV_size]; exact hin) rfl rfl hdg fun H1 e z oq => ?_
  refine kk H1 _ (hM.upd h1 rfl (fun b hb => cellOf_sJ hb) ?_ z oq)
  rw [cellOf_J cy ad (σ := sJ σ a _ x) h2]
  show H1[ad a]? = some (vp_cell _ _)
  rw [e]
  rw [vp_cell_l, vp_cell_l, arrV_store]
  congr 2
  funext q
  by_cases hq : q = i.toNatClampNeg
  · subst hq
    simp [updV, gJ, sJ]
  · simp [updV, gJ, sJ, hq]
end RW
