/-! methods that throw NoSuchElementException -/
abbrev nse : String := "java/util/NoSuchElementException"
abbrev nseN : List String := ["java/lang/RuntimeException", "java/lang/Exception"]
def XAT : List Cond := vx_at0 RX8 100 nse nseN
def XWL : List Cond := XAT.filter (fun w => !goodWord w)
def isDC : Cond → Bool
  | .declares _ => true
  | .castable _ _ => true
  | _ => false
theorem XWL_dc : ∀ w ∈ XWL, isDC w = true := by decide +kernel
theorem XAT_tbl : ∀ w ∈ XAT.filter goodWord, w ∈ lw_tbl := by decide +kernel
theorem XAT_wall : ∀ w ∈ XAT.filter goodWord, w ∈ WALL := fun w h => WALL_of (XAT_tbl w h) (List.mem_filter.mp h).2
theorem XAT_ot : ∀ w ∈ Cond.classLink RX8 98 nse :: Cond.initialized nse :: vx_at0 RX8 100 nse nseN, vx_ot w = true := by decide +kernel
theorem wcl_nse8 : Cond.classLink RX8 98 nse ∈ WALL := WALL_of (by decide +kernel) (by decide +kernel)
theorem wni_nse : Cond.initialized nse ∈ WALL := WALL_of (by decide +kernel) (by decide +kernel)
def XW (U : State) : Prop := ∀ w ∈ XWL, va_Nw w U
theorem XW.warm {s U : State} (h : XW s) (hW : s.WarmedH U.vm) : XW U := by
  intro w hw
  have h1 := h w hw
  have h2 := XWL_dc w hw
  cases w <;> first | exact va_Nw.warmD hW h1 | exact va_Nw.warmC hW h1 | cases h2
theorem XW.same {u U : State} (h : XW u) (e : u.vm = U.vm) : XW U := by
  intro w hw
  have h1 := h w hw
  have h2 := XWL_dc w hw
  cases w <;> first | exact va_Nw.same rfl e h1 | cases h2
theorem XW.use {s : State} (h : XW s) {args : Array Value} : ∀ w ∈ XWL, w.before args s = true := by
  intro w hw
  have h1 := h w hw
  have h2 := XWL_dc w hw
  cases w <;> first | exact va_Nw.use rfl h1 | cases h2
def GX (D : va_G) (cy : Nat → ClassId) (A : Nat → Prop) (U : State) : Prop := GS D cy A U ∧ XW U ∧ vx_Zq Bundle.tN "UNASSIGNED_STACK" Bundle.steD A U U.heap ∧ vx_Zq Bundle.tN "SUPPRESSED_SENTINEL" Bundle.listD A U U.heap
theorem GX.calling {D : va_G} {cy : Nat → ClassId} {A : Nat → Prop} {U : State} (h : GX D cy A U) (g : JFrame) (mk : MethodId) (a : Array Value) : GX D cy A (U.calling g mk a) :=
  ⟨h.1.calling g mk a, XW.same (u := U) (U := U.calling g mk a) h.2.1 rfl, vx_Zq.moved (u := U) (U := U.calling g mk a) (Vm.Alike.refl U.vm) h.2.2.1, vx_Zq.moved (u := U) (U := U.calling g mk a) (Vm.Alike.refl U.vm) h.2.2.2⟩
theorem GX.at {D : va_G} {cy : Nat → ClassId} {A : Nat → Prop} {s U : State} {H : Heap} {locs : List Loc} (h : GX D cy A s) (hS : va_S A s.heap H locs) (hU : U.heap = H) (hW : s.WarmedH U.vm) : GX D cy A U := by
  refine ⟨h.1.at hS hU hW, h.2.1.warm hW, ?_, ?_⟩
  · rw [hU]; exact (h.2.2.1.moved hW.alike).kept hS.2.1
  · rw [hU]; exact (h.2.2.2.moved hW.alike).kept hS.2.1
def PrX (D : va_G) (cy : Nat → ClassId) (ad : Nat → Nat) (A : Nat → Prop) (z : Nat) (σ : Mem) (U : State) : Prop := va_P D vwCl (MM cy ad σ) U.heap ∧ va_D A (MM cy ad σ) ∧ U.heap.size = z ∧ GX D cy A U
def PoX (D : va_G) (cy : Nat → ClassId) (ad : Nat → Nat) (A : Nat → Prop) (τ : Mem) (t : State) : Prop := va_P D vwCl (MM cy ad τ) t.heap ∧ va_D A (MM cy ad τ)
theorem PrX.blind {D : va_G} {cy : Nat → ClassId} {ad : Nat → Nat} {A : Nat → Prop} {z : Nat} {σ : Mem} {av : List Value} : FrameBlind (va_Pc av (PrX D cy ad A z σ)) := by
  intro a U g mk h
  obtain ⟨q0, qP, qD, qz, qG⟩ := h
  exact ⟨q0, qP, qD, qz, qG.calling g mk a⟩
theorem MS.preX {D : va_G} {cy : Nat → ClassId} {ad : Nat → Nat} {A : Nat → Prop} {z : Nat} {σ : Mem} {s : State} {H : Heap} {locs : List Loc} (hM : MS D cy ad A s.heap z σ H locs) (hG : GX D cy A s) : ∀ U : State, U.heap = H → s.WarmedH U.vm → PrX D cy ad A z σ U := by
  intro U hU hW
  exact ⟨by rw [hU]; exact hM.1, hM.2.1, by rw [hU]; exact hM.2.2.2, hG.at hM.2.2.1 hU hW⟩
abbrev CtXI (l : Launch) (y : MethodName) (cb : ByteArray) (n : Nat) (rt : Option FieldType) (d : Nat) (av : List Value) (D : va_G) (cy : Nat → ClassId) (ad : Nat → Nat) (A : Nat → Prop) (z : Nat) (σ : Mem) (r : Option Int32) (σ' : Mem) : Prop :=
  vx_Met l y (Cond.code y cb n rt :: WALL) (rmC d 1 6) (va_Pc av (PrX D cy ad A z σ)) (va_Qi (fun (r0 : Int32) (τ : Mem) => r = some r0 ∧ τ = σ') (Po D cy ad A z) A) (vx_X (fun τ : Mem => r = none ∧ τ = σ') (fun E τ t => E = nse ∧ PoX D cy ad A τ t) A) 1 6 A
def KrXI (p : Program) (l : Launch) (e : Env) (R : Room) (s : State) (m : MethodId) (args : Array Value) (below : List Frame) (meth : Method) (c : Code) (cc : ByteArray) (nL : Nat) (Q : State → Prop) (D : va_G) (cy : Nat → ClassId) (ad : Nat → Nat) (A : Nat → Prop) (z : Nat) (r : Option Int32) (σ' : Mem) : Prop :=
  (∀ v : Int32, r = some v → ∀ (H : Heap) (locs : List Loc) (pc : Nat) (ls : Array Slot), decode cc pc = .ok (.ireturn, 1) → MS D cy ad A s.heap z σ' H locs → W p l e R s m args below meth c H locs 0 0 Q (F0 m pc ls [.int v])) ∧
  (r = none → ∀ (H : Heap) (locs : List Loc) (pc : Nat) (ls : Array Slot), decode cc pc = .ok (.new 98, 3) → decode cc (pc + 3) = .ok (.dup, 1) → decode cc (pc + 4) = .ok (.invokespecial 100, 3) → decode cc (pc + 7) = .ok (.athrow, 1) → ls.size = nL → MS D cy ad A s.heap z σ' H locs → W p l e R s m args below meth c H locs 0 0 Q (F0 m pc ls []))
theorem enterXI {l : Launch} {D : va_G} {cy : Nat → ClassId} {ad : Nat → Nat} {A : Nat → Prop} {z : Nat} {σ : Mem} {y : MethodName} {cb : ByteArray} {n d : Nat} {rt0 : Option FieldType} {av : List Value} {r : Option Int32} {σ' : Mem} (hls : l.stackTraces = false) (hy : plainName y.cls = true) (ho : y.cls = RX8) (hn : (lg_sl av).length ≤ n) (hd6 : 6 ≤ d) (hrt : rt0 = some .int)
    (body : ∀ (p : Program) (e : Env) (s : State) (m : MethodId) (below : List Frame) (meth : Method) (c : Code) (Q : State → Prop) (ls : Array Slot), CallFix p m c cb n s av.toArray WALL RX8 → GS D cy A s → MS D cy ad A s.heap z σ s.heap [] → KrXI p l e (rmC d 1 6) s m av.toArray below meth c cb n Q D cy ad A z r σ' → lv_has ls n (lv_args 0 av) → W p l e (rmC d 1 6) s m av.toArray below meth c s.heap [] 0 0 Q (F0 m 0 ls [])) : CtXI l y cb n rt0 d av D cy ad A z σ r σ' := by
  refine vx_ofW (cc := cb) (maxL := n) (ret := rt0) hy rfl ?_
  intro p e s m args below meth c s₁ B hml htab hv
  obtain ⟨rfl, hP, hD, hz, hG⟩ := hv
  have hx := B.exec
  have hb := B.bytes
  have hr := B.returns
  have hts := atoms_spec (ws := Cond.code y cb n rt0 :: WALL) B.pre
  have htw : ∀ w ∈ WALL, w.before av.toArray s = true := fun w hw => hts w (List.mem_cons_of_mem _ hw)
  have hown : s.vm.findClass RX8 = some m.cls := by rw [← ho]; exact findClass_of_methodNamed B.named
  have hlocks := B.notSynchronized
  have hl := lv_entry av (n := n) hn
  rw [lg_entry_eq]
  refine body p e s m below meth c _ _ ⟨hx, hb, hml, hown, htw⟩ hG.1 ⟨hP, hD, va_S.rf, hz⟩ ⟨?_, ?_⟩ hl
  · intro v hv H locs pc ls hdg hM
    refine W.widen (k := 1) (n := 6) (by omega) (by omega) (vx_ret ?_)
    exact W.iret (v := v) hx hb (hr.trans hrt) (fun t ht hW => ⟨⟨v, σ', rfl, ⟨hv, rfl⟩, by rw [ht]; exact hM.1, hM.2.1, by rw [ht]; exact hM.2.2.2⟩, hM.2.2.1.F ht⟩) hM.2.2.1.2.2 hdg hlocks
  · intro hv H locs pc ls d0 d3 d4 d7 hsz hM
    refine vx_throw0 (own := RX8) (cls := nse) (names := nseN) (ik := 98) (ic := 100) (A := A) hx hb hls hown (by decide +kernel) (by decide +kernel) (htw _ wcl_nse8) (htw _ wni_nse) (vx_hat (L := XAT) (B := XWL) (fun w hw => htw w (XAT_wall w hw)) (fun w h => h) hG.2.1.use) XAT_ot hG.2.2.1 hG.2.2.2 hM.2.2.1 (hsz.trans hml.symm) d0 d3 d4 d7 (fun x hx => (htab x hx).elim) (by show 2 + 3 < d; omega) (by show 0 + (13 * (2 + 1) + 42) ≤ 36 * d; omega) (Nat.le_refl _) (Nat.le_refl _) hlocks (fun t ha h1 h2 => ?_) hM.2.2.1.2.2 (Nat.le_refl _) (Nat.le_refl _)
    refine ⟨σ', ⟨hv, rfl⟩, ⟨rfl, hM.1.kept (fun k q hk => h2 q.1 (hM.1 k q hk).lt), hM.2.1⟩, Nat.le_trans hM.2.2.1.1 h1, fun q hq hA => ?_⟩
    rw [h2 q (Nat.lt_of_lt_of_le hq hM.2.2.1.1)]
    exact hM.2.2.1.2.1 q hq hA
abbrev CtXL (l : Launch) (y : MethodName) (cb : ByteArray) (n : Nat) (rt : Option FieldType) (d : Nat) (av : List Value) (D : va_G) (cy : Nat → ClassId) (ad : Nat → Nat) (A : Nat → Prop) (z : Nat) (σ : Mem) (r : Option Int64) (σ' : Mem) : Prop :=
  vx_Met l y (Cond.code y cb n rt :: WALL) (rmC d 1 6) (va_Pc av (PrX D cy ad A z σ)) (va_Ql (fun (r0 : Int64) (τ : Mem) => r = some r0 ∧ τ = σ') (Po D cy ad A z) A) (vx_X (fun τ : Mem => r = none ∧ τ = σ') (fun E τ t => E = nse ∧ PoX D cy ad A τ t) A) 1 6 A
def KrXL (p : Program) (l : Launch) (e : Env) (R : Room) (s : State) (m : MethodId) (args : Array Value) (below : List Frame) (meth : Method) (c : Code) (cc : ByteArray) (nL : Nat) (Q : State → Prop) (D : va_G) (cy : Nat → ClassId) (ad : Nat → Nat) (A : Nat → Prop) (z : Nat) (r : Option Int64) (σ' : Mem) : Prop :=
  (∀ v : Int64, r = some v → ∀ (H : Heap) (locs : List Loc) (pc : Nat) (ls : Array Slot), decode cc pc = .ok (.lreturn, 1) → MS D cy ad A s.heap z σ' H locs → W p l e R s m args below meth c H locs 0 0 Q (F0 m pc ls [.long v])) ∧
  (r = none → ∀ (H : Heap) (locs : List Loc) (pc : Nat) (ls : Array Slot), decode cc pc = .ok (.new 98, 3) → decode cc (pc + 3) = .ok (.dup, 1) → decode cc (pc + 4) = .ok (.invokespecial 100, 3) → decode cc (pc + 7) = .ok (.athrow, 1) → ls.size = nL → MS D cy ad A s.heap z σ' H locs → W p l e R s m args below meth c H locs 0 0 Q (F0 m pc ls []))
theorem enterXL {l : Launch} {D : va_G} {cy : Nat → ClassId} {ad : Nat → Nat} {A : Nat → Prop} {z : Nat} {σ : Mem} {y : MethodName} {cb : ByteArray} {n d : Nat} {rt0 : Option FieldType} {av : List Value} {r : Option Int64} {σ' : Mem} (hls : l.stackTraces = false) (hy : plainName y.cls = true) (ho : y.cls = RX8) (hn : (lg_sl av).length ≤ n) (hd6 : 6 ≤ d) (hrt : rt0 = some .long)
    (body : ∀ (p : Program) (e : Env) (s : State) (m : MethodId) (below : List Frame) (meth : Method) (c : Code) (Q : State → Prop) (ls : Array Slot), CallFix p m c cb n s av.toArray WALL RX8 → GS D cy A s → MS D cy ad A s.heap z σ s.heap [] → KrXL p l e (rmC d 1 6) s m av.toArray below meth c cb n Q D cy ad A z r σ' → lv_has ls n (lv_args 0 av) → W p l e (rmC d 1 6) s m av.toArray below meth c s.heap [] 0 0 Q (F0 m 0 ls [])) : CtXL l y cb n rt0 d av D cy ad A z σ r σ' := by
  refine vx_ofW (cc := cb) (maxL := n) (ret := rt0) hy rfl ?_
  intro p e s m args below meth c s₁ B hml htab hv
  obtain ⟨rfl, hP, hD, hz, hG⟩ := hv
  have hx := B.exec
  have hb := B.bytes
  have hr := B.returns
  have hts := atoms_spec (ws := Cond.code y cb n rt0 :: WALL) B.pre
  have htw : ∀ w ∈ WALL, w.before av.toArray s = true := fun w hw => hts w (List.mem_cons_of_mem _ hw)
  have hown : s.vm.findClass RX8 = some m.cls := by rw [← ho]; exact findClass_of_methodNamed B.named
  have hlocks := B.notSynchronized
  have hl := lv_entry av (n := n) hn
  rw [lg_entry_eq]
  refine body p e s m below meth c _ _ ⟨hx, hb, hml, hown, htw⟩ hG.1 ⟨hP, hD, va_S.rf, hz⟩ ⟨?_, ?_⟩ hl
  · intro v hv H locs pc ls hdg hM
    refine W.widen (k := 1) (n := 6) (by omega) (by omega) (vx_ret ?_)
    exact W.lret (v := v) hx hb (hr.trans hrt) (fun t ht hW => ⟨⟨v, σ', rfl, ⟨hv, rfl⟩, by rw [ht]; exact hM.1, hM.2.1, by rw [ht]; exact hM.2.2.2⟩, hM.2.2.1.F ht⟩) hM.2.2.1.2.2 hdg hlocks
  · intro hv H locs pc ls d0 d3 d4 d7 hsz hM
    refine vx_throw0 (own := RX8) (cls := nse) (names := nseN) (ik := 98) (ic := 100) (A := A) hx hb hls hown (by decide +kernel) (by decide +kernel) (htw _ wcl_nse8) (htw _ wni_nse) (vx_hat (L := XAT) (B := XWL) (fun w hw => htw w (XAT_wall w hw)) (fun w h => h) hG.2.1.use) XAT_ot hG.2.2.1 hG.2.2.2 hM.2.2.1 (hsz.trans hml.symm) d0 d3 d4 d7 (fun x hx => (htab x hx).elim) (by show 2 + 3 < d; omega) (by show 0 + (13 * (2 + 1) + 42) ≤ 36 * d; omega) (Nat.le_refl _) (Nat.le_refl _) hlocks (fun t ha h1 h2 => ?_) hM.2.2.1.2.2 (Nat.le_refl _) (Nat.le_refl _)
    refine ⟨σ', ⟨hv, rfl⟩, ⟨rfl, hM.1.kept (fun k q hk => h2 q.1 (hM.1 k q hk).lt), hM.2.1⟩, Nat.le_trans hM.2.2.1.1 h1, fun q hq hA => ?_⟩
    rw [h2 q (Nat.lt_of_lt_of_le hq hM.2.2.1.1)]
    exact hM.2.2.1.2.1 q hq hA
