/-! THE CLAIM OUT OF ONE WALK OF THE LAW'S BODY. Your part is whole_start (and what it stands on); all else here is the same for every law, but numbers. -/
def R_law : String := "TariffDeskLaw"
def lw_P (b : Addr) (xs : List Int32) (args : Array Value) (s : State) : Prop := args = #[.ref b] ∧ s.IntsAt b xs ∧ xs.length ≤ 3072 ∧ (Jvm.Cond.and given_1 narrow_1).before args s = true
def lw_Q (_ : Array Value) (s : State) (o : Outcome) (t : State) : Prop := o = .returned (some (.int 1)) ∧ Framed s o t [] 601024 7293034
def lw_Z (below : List Frame) (a : Array Value) (s : State) : State → Prop := fun t => ∃ o, t.status = .running ∧ Ended t below o ∧ lw_Q a s o t
/-- the law's own end, with 1 on the stack, nothing written that was there before, its room as the claim has it -/
theorem lw_ret {p : Program} {l : Launch} {e : Env} {s : State} {m : MethodId} {below : List Frame} {meth : Method} {c : Code} {b : Nat} (hx : p.tables.exec = Jvm.exec) (hb : c.code = code) (hr : meth.sig.returnType = ret) (hlocks : meth.locks = false) {pc : Nat} {H : Heap} {ls : Array Slot} (hdg : decode code pc = .ok (.ireturn, 1)) : W p l e room_1 s m #[Value.ref b] below meth c H [] 601024 7293034 (lw_Z below #[Value.ref b] s) (F0 m pc ls [.int 1]) := by
  intro T hT X
  obtain ⟨fs, hret, hrun, hended, hW, hframe⟩ := X.leave (v := some (.int 1)) (hlocks := hlocks) (fun h => by rw [hr] at h; cases h)
  have hmeth' : T.vm.method? m = some meth := X.method'
  refine ⟨T.setFrames fs, ?_, .returned (some (.int 1)), hrun, hended, rfl, ⟨_, rfl⟩, hW, hframe⟩
  jvm_step X.here [X.here.top, hx, hb, hdg, hmeth', hr, ret, narrow_b1]
  (try refine ⟨rfl, ?_⟩); (try refine ⟨rfl, ?_⟩)
  first | (intro acts; rw [hret _ acts rfl rfl rfl]) | rw [hret _ _ rfl rfl rfl]
  exact Steps.refl _
/-- what holds at the law's entry: the machine, the code, the tables' words (any of lw_tbl by 'hts w (by decide +kernel)'), the script of L ints xs at the cell b, what the Statement gives of the start (any of its parts by flat_of_before) -/
def lw_At (p : Program) (s : State) (m : MethodId) (meth : Method) (c : Code) (b L : Nat) (xs : Nat → Int32) : Prop :=
  p.tables.exec = Jvm.exec ∧ c.code = code ∧ meth.sig.returnType = ret ∧ c.maxLocals = 8 ∧ s.vm.findClass R_law = some m.cls ∧ (∀ w ∈ lw_tbl, w.before #[Value.ref b] s = true) ∧ va_X b L xs s s.heap ∧ b < s.heap.size ∧ meth.locks = false ∧ (Jvm.Cond.and given_1 narrow_1).before #[Value.ref b] s = true
section LG
variable {p : Program} {l : Launch} {e : Env} {R : Room} {s : State} {m : MethodId} {args : Array Value} {below : List Frame} {meth : Method} {c : Code} {H : Heap} {locs : List Loc} {cells slots : Nat} {Q : State → Prop}
variable {cc : ByteArray} {pc nL : Nat} {ls : Array Slot} {rest : List Value} {D : va_G} {cy : Nat → ClassId} {ad : Nat → Nat} {A : Nat → Prop} {z : Nat} {σ : Mem}
theorem callVg_I {own : String} {index n d : Nat} {y : MethodName} {cb : ByteArray} {ret : Option FieldType} {As : List Value} {ra : Int32} {τ : Mem} {st : List Value} {b ci N : Nat} {C : String} {T : u_T} (hcs : cells ≤ R.cells ∧ slots ≤ R.slots) (hk : kd σ b = ci) (hci : ci < 10) (hcl : vwCl[ci]? = some (C, T, N)) (hl : Cond.methodLink own index y ∈ WALL) (hin : Cond.instanceMethod y ∈ WALL) (hse : Cond.selects C y y ∈ WALL) (hyC : y.cls = C) (hini : Cond.initialized y.cls ∈ WALL) (hcd : Cond.code y cb n ret ∈ WALL) (hd : y.cls ≠ "java/lang/invoke/MethodHandle" ∧ y.cls ≠ "java/lang/invoke/VarHandle" ∧ (parseMethodDescriptor y.desc).map (fun d => d.parameters.length) = some As.length) (hC : CallFix p m c cc nL s args WALL own) (hG : GS D cy A s) (hM : MS D cy ad A s.heap z σ H locs) (hct : CtI l y cb n ret d (.ref (ad b) :: As) D cy ad A z σ ra τ) (hR : d + 1 ≤ R.frames ∧ 8 + (n + 11) + 36 * d ≤ R.locals) (hsz : ls.size = nL) (hW : (rest.map fun v => v.category).sum ≤ 8) (hdg : decode cc pc = .ok (.invokevirtual index, 3)) (hst0 : st = As.reverse ++ .ref (ad b) :: rest)
    (kk : ∀ (H : Heap) (locs : List Loc), MS D cy ad A s.heap z τ H locs → W p l e R s m args below meth c H locs cells slots Q (F0 m (pc + 3) ls (.int ra :: rest))) : W p l e R s m args below meth c H locs cells slots Q (F0 m pc ls st) := by
  subst hst0
  obtain ⟨h1, h2⟩ := kd_lt hk (by omega)
  refine va_calli (va_runV (As := As) (rest := rest) hC hct (cwV As.length hC.2.2.2.2 (WALL_cons hl (WALL_cons hin (WALL_cons hse (WALL_cons (hyC ▸ hini) (WALL_code hcd))))) rfl rfl rfl ⟨hyC, hd⟩ hR) ⟨Pr.blind, va_recv hG.1 hM.1 hcl (by rw [MM_get cy ad h1, cellOf_obj cy ad h2 hci]), fun U hU hW => ⟨rfl, hM.pre hG U hU hW⟩⟩ rfl rfl hsz rfl (lv_room hW) hdg ⟨hcs.1, hcs.2⟩) hM.2.2.1 (fun q _ h => h) (fun q h => h) (fun r u t H1 locs1 ht hvm hw hB hz1 hk1 hS => ?_)
  obtain ⟨rfl, rfl⟩ := hw
  exact kk H1 locs1 (MS.post hB ht hS)
theorem callVg_L {own : String} {index n d : Nat} {y : MethodName} {cb : ByteArray} {ret : Option FieldType} {As : List Value} {ra : Int64} {τ : Mem} {st : List Value} {b ci N : Nat} {C : String} {T : u_T} (hcs : cells ≤ R.cells ∧ slots ≤ R.slots) (hk : kd σ b = ci) (hci : ci < 10) (hcl : vwCl[ci]? = some (C, T, N)) (hl : Cond.methodLink own index y ∈ WALL) (hin : Cond.instanceMethod y ∈ WALL) (hse : Cond.selects C y y ∈ WALL) (hyC : y.cls = C) (hini : Cond.initialized y.cls ∈ WALL) (hcd : Cond.code y cb n ret ∈ WALL) (hd : y.cls ≠ "java/lang/invoke/MethodHandle" ∧ y.cls ≠ "java/lang/invoke/VarHandle" ∧ (parseMethodDescriptor y.desc).map (fun d => d.parameters.length) = some As.length) (hC : CallFix p m c cc nL s args WALL own) (hG : GS D cy A s) (hM : MS D cy ad A s.heap z σ H locs) (hct : CtL l y cb n ret d (.ref (ad b) :: As) D cy ad A z σ ra τ) (hR : d + 1 ≤ R.frames ∧ 8 + (n + 11) + 36 * d ≤ R.locals) (hsz : ls.size = nL) (hW : (rest.map fun v => v.category).sum ≤ 8) (hdg : decode cc pc = .ok (.invokevirtual index, 3)) (hst0 : st = As.reverse ++ .ref (ad b) :: rest)
    (kk : ∀ (H : Heap) (locs : List Loc), MS D cy ad A s.heap z τ H locs → W p l e R s m args below meth c H locs cells slots Q (F0 m (pc + 3) ls (.long ra :: rest))) : W p l e R s m args below meth c H locs cells slots Q (F0 m pc ls st) := by
  subst hst0
  obtain ⟨h1, h2⟩ := kd_lt hk (by omega)
  refine va_calll (va_runV (As := As) (rest := rest) hC hct (cwV As.length hC.2.2.2.2 (WALL_cons hl (WALL_cons hin (WALL_cons hse (WALL_cons (hyC ▸ hini) (WALL_code hcd))))) rfl rfl rfl ⟨hyC, hd⟩ hR) ⟨Pr.blind, va_recv hG.1 hM.1 hcl (by rw [MM_get cy ad h1, cellOf_obj cy ad h2 hci]), fun U hU hW => ⟨rfl, hM.pre hG U hU hW⟩⟩ rfl rfl hsz rfl (lv_room hW) hdg ⟨hcs.1, hcs.2⟩) hM.2.2.1 (fun q _ h => h) (fun q h => h) (fun r u t H1 locs1 ht hvm hw hB hz1 hk1 hS => ?_)
  obtain ⟨rfl, rfl⟩ := hw
  exact kk H1 locs1 (MS.post hB ht hS)
theorem callH {own : String} {index n d : Nat} {y : MethodName} {cb : ByteArray} {hh : List (Nat × Nat × Nat × Nat)} {As : List Value} {ra : Int32} {τ : Mem} {st : List Value} (hcs : cells + 1 ≤ R.cells ∧ slots + 6 ≤ R.slots) (hl : Cond.methodLink own index y ∈ WALL) (hst : Cond.static y ∈ WALL) (hini : Cond.initialized y.cls ∈ WALL) (hcd : Cond.codeWith y cb n (some .int) hh ∈ WALL) (hd : y.cls ≠ "java/lang/invoke/MethodHandle" ∧ y.cls ≠ "java/lang/invoke/VarHandle" ∧ (parseMethodDescriptor y.desc).map (fun d => d.parameters.length) = some As.length) (hC : CallFix p m c cc nL s args WALL own) (hG : GX D cy A s) (hM : MS D cy ad A s.heap z σ H locs) (hct : CtH l y cb n hh d As D cy ad A z σ ra τ) (hR : d + 1 ≤ R.frames ∧ 8 + (n + 11) + 36 * d ≤ R.locals) (hsz : ls.size = nL) (hW : (rest.map fun v => v.category).sum ≤ 8) (hdg : decode cc pc = .ok (.invokestatic index, 3)) (hst0 : st = As.reverse ++ rest)
    (kk : ∀ (z : Nat) (H : Heap) (locs : List Loc), MS D cy ad A s.heap z τ H locs → W p l e R s m args below meth c H locs (cells + 1) (slots + 6) Q (F0 m (pc + 3) ls (.int ra :: rest))) : W p l e R s m args below meth c H locs cells slots Q (F0 m pc ls st) := by
  subst hst0
  refine va_calli (vx_runSW (As := As) (rest := rest) hC hct (vx_cwSW As.length hC.2.2.2.2 (WALL_cons hl (WALL_cons hst (WALL_cons hini (WALL_cons hcd WALL_good)))) rfl rfl rfl hd hR) ⟨PrX.blind, fun U hU hW => ⟨rfl, hM.preX hG U hU hW⟩⟩ rfl rfl hsz rfl (lv_room hW) hdg hcs) hM.2.2.1 (fun q _ h => h) (fun q h => h) (fun r u t H1 locs1 ht hvm hw hB hz1 hk1 hS => ?_)
  obtain ⟨rfl, rfl⟩ := hw
  obtain ⟨hP1, hD1⟩ := hB
  rw [ht] at hP1
  exact kk _ H1 locs1 ⟨hP1, hD1, hS, rfl⟩
end LG
def OpI (Rel : Mem → Prop) (fx fm : Mem → Option (Int32 × Mem)) : Prop := ∀ σ, Rel σ → ∃ r σ1 σ2, fx σ = some (r, σ1) ∧ kd σ1 304 = 9 ∧ fm σ1 = some (r, σ2) ∧ Rel σ2
def OpL (Rel : Mem → Prop) (fx fm : Mem → Option (Int64 × Mem)) : Prop := ∀ σ, Rel σ → ∃ r σ1 σ2, fx σ = some (r, σ1) ∧ kd σ1 304 = 9 ∧ fm σ1 = some (r, σ2) ∧ Rel σ2
def OpXI (Rel : Mem → Prop) (fx : Mem → Option (Option Int32 × Mem)) (fm : Mem → Option (Int32 × Mem)) : Prop := ∀ σ, Rel σ → ∃ r σ1 b σ2, fx σ = some (r, σ1) ∧ kd σ1 330 = 12 ∧ gL σ1 330 = 1 ∧ kd (outI r σ1) 304 = 9 ∧ fm (outI r σ1) = some (b, σ2) ∧ kd σ2 304 = 9 ∧ gI σ2 304 0 = kof r ∧ kd σ2 330 = 12 ∧ gL σ2 330 = 1 ∧ (kof r = 0 → gJ σ2 330 0 = b.toInt64) ∧ Rel σ2
def OpXL (Rel : Mem → Prop) (fx : Mem → Option (Option Int64 × Mem)) (fm : Mem → Option (Int64 × Mem)) : Prop := ∀ σ, Rel σ → ∃ r σ1 b σ2, fx σ = some (r, σ1) ∧ kd σ1 330 = 12 ∧ gL σ1 330 = 1 ∧ kd (outL r σ1) 304 = 9 ∧ fm (outL r σ1) = some (b, σ2) ∧ kd σ2 304 = 9 ∧ gI σ2 304 0 = kof r ∧ kd σ2 330 = 12 ∧ gL σ2 330 = 1 ∧ (kof r = 0 → gJ σ2 330 0 = b) ∧ Rel σ2
theorem thrown_ok {σ : Mem} {k : Int32} (hk : kd σ 304 = 9) (hv : gI σ 304 0 = k) : fX9_thrown 304 σ = some (k, σ) := by
  unfold fX9_thrown fI
  rw [Option.bind_some, if_pos hk, Option.bind_some, hv]
theorem aJ_out {σ : Mem} {v : Int64} (hk : kd σ 330 = 12) (hl : gL σ 330 = 1) (hv : gJ σ 330 0 = v) : aJ σ 12 (some 330) 0 = some v := by
  unfold aJ
  rw [Option.bind_some, if_pos hk, if_neg (by rw [hl]; decide)]
  exact congrArg some hv
def OPS (Rel : Mem → Prop) : Prop := (∀ σ, Rel σ → kd σ 0 = 8) ∧ (∀ (a0 : Int32) (a1 : Int32) (a2 : Int32) (a3 : Int32) (a4 : Int32), OpI Rel (fX8_feed 0 a0 a1 a2 a3 a4) (fX9_feed 304 a0 a1 a2 a3 a4)) ∧ (∀ (a0 : Int32), OpI Rel (fX8_end 0 a0) (fX9_end 304 a0)) ∧ (OpI Rel (fX8_plans 0 ) (fX9_plans 304 )) ∧ (OpI Rel (fX8_fault 0 ) (fX9_fault 304 )) ∧ (∀ (a0 : Int32) (a1 : Int32), OpXI Rel (fX8_plan 0 a0 a1) (fX9_plan 304 a0 a1)) ∧ (∀ (a0 : Int32), OpI Rel (fX8_name 0 a0) (fX9_name 304 a0)) ∧ (∀ (a0 : Int32), OpXI Rel (fX8_octet 0 a0) (fX9_octet 304 a0)) ∧ (∀ (a0 : Int32) (a1 : Int32) (a2 : Int32), OpI Rel (fX8_uses 0 a0 a1 a2) (fX9_uses 304 a0 a1 a2)) ∧ (∀ (a0 : Int32) (a1 : Int32) (a2 : Int32), OpI Rel (fX8_use 0 a0 a1 a2) (fX9_use 304 a0 a1 a2)) ∧ (∀ (a0 : Int32), OpI Rel (fX8_change 0 a0) (fX9_change 304 a0)) ∧ (∀ (a0 : Int32) (a1 : Int32) (a2 : Int32) (a3 : Int32), OpXL Rel (fX8_cost 0 a0 a1 a2 a3) (fX9_cost 304 a0 a1 a2 a3)) ∧ (∀ (a0 : Int32) (a1 : Int32) (a2 : Int32) (a3 : Int64), OpXL Rel (fX8_bill 0 a0 a1 a2 a3) (fX9_bill 304 a0 a1 a2 a3)) ∧ (∀ (a0 : Int32) (a1 : Int32) (a2 : Int32), OpL Rel (fX8_best 0 a0 a1 a2) (fX9_best 304 a0 a1 a2)) ∧ (∀ (a0 : Int32), OpI Rel (fX8_had 0 a0) (fX9_had 304 a0)) ∧ (OpL Rel (fX8_bills 0 ) (fX9_bills 304 )) ∧ (∀ (a0 : Int32), OpI Rel (fX8_group 0 a0) (fX9_group 304 a0)) ∧ (∀ (a0 : Int32) (a1 : Int32) (a2 : Int32), OpI Rel (fX8_span 0 a0 a1 a2) (fX9_span 304 a0 a1 a2)) ∧ (∀ (a0 : Int32) (a1 : Int32) (a2 : Int32), OpXL Rel (fX8_above 0 a0 a1 a2) (fX9_above 304 a0 a1 a2)) ∧ (∀ (a0 : Int32), OpI Rel (fX8_count 0 a0) (fX9_count 304 a0))
theorem wnL_L : Cond.initialized RL ∈ WALL := WALL_of (List.mem_of_getElem? (i := 73) (by decide +kernel)) (by decide +kernel)
theorem wnL_X8 : Cond.initialized RX8 ∈ WALL := WALL_of (List.mem_of_getElem? (i := 74) (by decide +kernel)) (by decide +kernel)
theorem wnL_X9 : Cond.initialized RX9 ∈ WALL := WALL_of (List.mem_of_getElem? (i := 83) (by decide +kernel)) (by decide +kernel)
theorem mlL_35 : Cond.methodLink RL 35 yX8_feed ∈ WALL := WALL_of (List.mem_of_getElem? (i := 365) (by decide +kernel)) (by decide +kernel)
theorem hdL_X8_feed : yX8_feed.cls ≠ "java/lang/invoke/MethodHandle" ∧ yX8_feed.cls ≠ "java/lang/invoke/VarHandle" ∧ (parseMethodDescriptor yX8_feed.desc).map (fun d => d.parameters.length) = some 5 := by decide +kernel
theorem wcL_X8_feed : Cond.code yX8_feed cX8_feed 6 (some .int) ∈ WALL := WALL_of (List.mem_of_getElem? (i := 368) (by decide +kernel)) (by decide +kernel)
theorem wiL_X8_feed : Cond.instanceMethod yX8_feed ∈ WALL := WALL_of (List.mem_of_getElem? (i := 366) (by decide +kernel)) (by decide +kernel)
theorem wsL_X8_feed : Cond.selects RX8 yX8_feed yX8_feed ∈ WALL := WALL_of (List.mem_of_getElem? (i := 367) (by decide +kernel)) (by decide +kernel)
theorem mlL_39 : Cond.methodLink RL 39 yX9_feed ∈ WALL := WALL_of (List.mem_of_getElem? (i := 915) (by decide +kernel)) (by decide +kernel)
theorem hdL_X9_feed : yX9_feed.cls ≠ "java/lang/invoke/MethodHandle" ∧ yX9_feed.cls ≠ "java/lang/invoke/VarHandle" ∧ (parseMethodDescriptor yX9_feed.desc).map (fun d => d.parameters.length) = some 5 := by decide +kernel
theorem wcL_X9_feed : Cond.code yX9_feed cX9_feed 6 (some .int) ∈ WALL := WALL_of (List.mem_of_getElem? (i := 918) (by decide +kernel)) (by decide +kernel)
theorem wiL_X9_feed : Cond.instanceMethod yX9_feed ∈ WALL := WALL_of (List.mem_of_getElem? (i := 916) (by decide +kernel)) (by decide +kernel)
theorem wsL_X9_feed : Cond.selects RX9 yX9_feed yX9_feed ∈ WALL := WALL_of (List.mem_of_getElem? (i := 917) (by decide +kernel)) (by decide +kernel)
set_option maxRecDepth 20000 in
theorem law_c0 {p : Program} {l : Launch} {e : Env} {s : State} {m : MethodId} {below : List Frame} {meth : Method} {c : Code} {D : va_G} {cy : Nat → ClassId} {b L : Nat} {xs : Nat → Int32} {Rel : Mem → Prop} {ad : Nat → Nat} (C0 : lw_At p s m meth c b L xs) (hls : l.stackTraces = false) (hG : GX D cy (fun q : Nat => s.heap.size ≤ q) s) (hO : OPS Rel) {x4 : Int32} (hi1 : vp_in (x4 + 1) L) (hi2 : vp_in (x4 + 2) L) (hi3 : vp_in (x4 + 3) L) (hi4 : vp_in (x4 + 4) L) (hi5 : vp_in (x4 + 5) L) {z cells slots : Nat} {σ : Mem} {H : Heap} {locs : List Loc} {ls : Array Slot} (hcs : cells + 1 ≤ 601024 ∧ slots + 6 ≤ 7293034) (hRel : Rel σ) (hM : MS D cy ad (fun q : Nat => s.heap.size ≤ q) s.heap z σ H locs) (hl : lv_has ls 8 [(0, .ref b), (1, .ref (ad 0)), (2, .ref (ad 304)), (3, .ref (ad 330)), (4, .int x4)]) (hnext : ∀ (z cells' slots' : Nat) (τ : Mem) (H : Heap) (locs : List Loc) (ls : Array Slot), cells' ≤ cells + 1 → slots' ≤ slots + 6 → Rel τ → MS D cy ad (fun q : Nat => s.heap.size ≤ q) s.heap z τ H locs → lv_has ls 8 [(0, .ref b), (1, .ref (ad 0)), (2, .ref (ad 304)), (3, .ref (ad 330)), (4, .int x4)] → W p l e room_1 s m #[Value.ref b] below meth c H locs cells' slots' (lw_Z below #[Value.ref b] s) (F0 m 1025 ls [])) : W p l e room_1 s m #[Value.ref b] below meth c H locs cells slots (lw_Z below #[Value.ref b] s) (F0 m 132 ls []) := by
  obtain ⟨hx, hb, hr, hml, hown, hts, hX, hbl, hlocks, hgv⟩ := id C0
  have hbA : ¬ (fun q : Nat => s.heap.size ≤ q) b := Nat.not_le.mpr hbl
  have hC : CallFix p m c cL_law 8 s #[Value.ref b] WALL RL := ⟨hx, hb, hml, hown, fun w hw => hts w (List.mem_filter.mp hw).1⟩
  have hRel0 := hRel
  obtain ⟨r, σ1, σ2, e1, k1, e2, hRel2⟩ := (hO.2.1 (xs (x4 + 1).toNatClampNeg) (xs (x4 + 2).toNatClampNeg) (xs (x4 + 3).toNatClampNeg) (xs (x4 + 4).toNatClampNeg) (xs (x4 + 5).toNatClampNeg)) σ hRel
  refine lv_aload_n hx hb dL_law_132 rfl (lv_at hl 1 rfl) ?_
  refine lv_aload_n hx hb dL_law_133 rfl (lv_at hl 0 rfl) ?_
  refine lv_iload hx hb dL_law_134 (lv_at hl 4 rfl) ?_
  refine lv_iconst (v := 1) hx hb dL_law_136 (by decide) ?_
  refine lv_iadd hx hb dL_law_137 ?_
  refine va_sld hx hb hX hbl hbA hM.2.2.1 hi1 dL_law_138 ?_
  refine lv_aload_n hx hb dL_law_139 rfl (lv_at hl 0 rfl) ?_
  refine lv_iload hx hb dL_law_140 (lv_at hl 4 rfl) ?_
  refine lv_iconst (v := 2) hx hb dL_law_142 (by decide) ?_
  refine lv_iadd hx hb dL_law_143 ?_
  refine va_sld hx hb hX hbl hbA hM.2.2.1 hi2 dL_law_144 ?_
  refine lv_aload_n hx hb dL_law_145 rfl (lv_at hl 0 rfl) ?_
  refine lv_iload hx hb dL_law_146 (lv_at hl 4 rfl) ?_
  refine lv_iconst (v := 3) hx hb dL_law_148 (by decide) ?_
  refine lv_iadd hx hb dL_law_149 ?_
  refine va_sld hx hb hX hbl hbA hM.2.2.1 hi3 dL_law_150 ?_
  refine lv_aload_n hx hb dL_law_151 rfl (lv_at hl 0 rfl) ?_
  refine lv_iload hx hb dL_law_152 (lv_at hl 4 rfl) ?_
  refine lv_iconst (v := 4) hx hb dL_law_154 (by decide) ?_
  refine lv_iadd hx hb dL_law_155 ?_
  refine va_sld hx hb hX hbl hbA hM.2.2.1 hi4 dL_law_156 ?_
  refine lv_aload_n hx hb dL_law_157 rfl (lv_at hl 0 rfl) ?_
  refine lv_iload hx hb dL_law_158 (lv_at hl 4 rfl) ?_
  refine lv_iconst (v := 5) hx hb dL_law_160 (by decide) ?_
  refine lv_iadd hx hb dL_law_161 ?_
  refine va_sld hx hb hX hbl hbA hM.2.2.1 hi5 dL_law_162 ?_
  refine callVg_I (As := [.int (xs (x4 + 1).toNatClampNeg), .int (xs (x4 + 2).toNatClampNeg), .int (xs (x4 + 3).toNatClampNeg), .int (xs (x4 + 4).toNatClampNeg), .int (xs (x4 + 5).toNatClampNeg)]) ⟨by show _ ≤ 601024; omega, by show _ ≤ 7293034; omega⟩ (hO.1 _ hRel) (by decide) rfl mlL_35 wiL_X8_feed wsL_X8_feed rfl wnL_X8 wcL_X8_feed hdL_X8_feed hC hG.1 hM (cX8_feed_ok e1) ⟨by decide, by decide⟩ hl.1 (Nat.le_of_ble_eq_true rfl) dL_law_163 rfl (fun H locs hM => ?_)
  refine lv_aload_n hx hb dL_law_166 rfl (lv_at hl 2 rfl) ?_
  refine lv_aload_n hx hb dL_law_167 rfl (lv_at hl 0 rfl) ?_
  refine lv_iload hx hb dL_law_168 (lv_at hl 4 rfl) ?_
  refine lv_iconst (v := 1) hx hb dL_law_170 (by decide) ?_
  refine lv_iadd hx hb dL_law_171 ?_
  refine va_sld hx hb hX hbl hbA hM.2.2.1 hi1 dL_law_172 ?_
  refine lv_aload_n hx hb dL_law_173 rfl (lv_at hl 0 rfl) ?_
  refine lv_iload hx hb dL_law_174 (lv_at hl 4 rfl) ?_
  refine lv_iconst (v := 2) hx hb dL_law_176 (by decide) ?_
  refine lv_iadd hx hb dL_law_177 ?_
  refine va_sld hx hb hX hbl hbA hM.2.2.1 hi2 dL_law_178 ?_
  refine lv_aload_n hx hb dL_law_179 rfl (lv_at hl 0 rfl) ?_
  refine lv_iload hx hb dL_law_180 (lv_at hl 4 rfl) ?_
  refine lv_iconst (v := 3) hx hb dL_law_182 (by decide) ?_
  refine lv_iadd hx hb dL_law_183 ?_
  refine va_sld hx hb hX hbl hbA hM.2.2.1 hi3 dL_law_184 ?_
  refine lv_aload_n hx hb dL_law_185 rfl (lv_at hl 0 rfl) ?_
  refine lv_iload hx hb dL_law_186 (lv_at hl 4 rfl) ?_
  refine lv_iconst (v := 4) hx hb dL_law_188 (by decide) ?_
  refine lv_iadd hx hb dL_law_189 ?_
  refine va_sld hx hb hX hbl hbA hM.2.2.1 hi4 dL_law_190 ?_
  refine lv_aload_n hx hb dL_law_191 rfl (lv_at hl 0 rfl) ?_
  refine lv_iload hx hb dL_law_192 (lv_at hl 4 rfl) ?_
  refine lv_iconst (v := 5) hx hb dL_law_194 (by decide) ?_
  refine lv_iadd hx hb dL_law_195 ?_
  refine va_sld hx hb hX hbl hbA hM.2.2.1 hi5 dL_law_196 ?_
  refine callVg_I (As := [.int (xs (x4 + 1).toNatClampNeg), .int (xs (x4 + 2).toNatClampNeg), .int (xs (x4 + 3).toNatClampNeg), .int (xs (x4 + 4).toNatClampNeg), .int (xs (x4 + 5).toNatClampNeg)]) ⟨by show _ ≤ 601024; omega, by show _ ≤ 7293034; omega⟩ k1 (by decide) rfl mlL_39 wiL_X9_feed wsL_X9_feed rfl wnL_X9 wcL_X9_feed hdL_X9_feed hC hG.1 hM (cX9_feed_ok e2) ⟨by decide, by decide⟩ hl.1 (Nat.le_of_ble_eq_true rfl) dL_law_197 rfl (fun H locs hM => ?_)
  refine lv_icmp_eq (tgt := 1025) hx hb dL_law_200 (by decide) (fun _ => ?_) (fun c0 => absurd rfl c0)
  exact hnext _ _ _ _ _ _ _ (Nat.le_succ _) (Nat.le_add_right _ 6) hRel2 hM (lv_sub hl [0, 1, 2, 3, 4] rfl)
theorem mlL_40 : Cond.methodLink RL 40 yX8_end ∈ WALL := WALL_of (List.mem_of_getElem? (i := 373) (by decide +kernel)) (by decide +kernel)
theorem hdL_X8_end : yX8_end.cls ≠ "java/lang/invoke/MethodHandle" ∧ yX8_end.cls ≠ "java/lang/invoke/VarHandle" ∧ (parseMethodDescriptor yX8_end.desc).map (fun d => d.parameters.length) = some 1 := by decide +kernel
theorem wcL_X8_end : Cond.code yX8_end cX8_end 2 (some .boolean) ∈ WALL := WALL_of (List.mem_of_getElem? (i := 376) (by decide +kernel)) (by decide +kernel)
theorem wiL_X8_end : Cond.instanceMethod yX8_end ∈ WALL := WALL_of (List.mem_of_getElem? (i := 374) (by decide +kernel)) (by decide +kernel)
theorem wsL_X8_end : Cond.selects RX8 yX8_end yX8_end ∈ WALL := WALL_of (List.mem_of_getElem? (i := 375) (by decide +kernel)) (by decide +kernel)
theorem mlL_44 : Cond.methodLink RL 44 yX9_end ∈ WALL := WALL_of (List.mem_of_getElem? (i := 923) (by decide +kernel)) (by decide +kernel)
theorem hdL_X9_end : yX9_end.cls ≠ "java/lang/invoke/MethodHandle" ∧ yX9_end.cls ≠ "java/lang/invoke/VarHandle" ∧ (parseMethodDescriptor yX9_end.desc).map (fun d => d.parameters.length) = some 1 := by decide +kernel
theorem wcL_X9_end : Cond.code yX9_end cX9_end 2 (some .boolean) ∈ WALL := WALL_of (List.mem_of_getElem? (i := 926) (by decide +kernel)) (by decide +kernel)
theorem wiL_X9_end : Cond.instanceMethod yX9_end ∈ WALL := WALL_of (List.mem_of_getElem? (i := 924) (by decide +kernel)) (by decide +kernel)
theorem wsL_X9_end : Cond.selects RX9 yX9_end yX9_end ∈ WALL := WALL_of (List.mem_of_getElem? (i := 925) (by decide +kernel)) (by decide +kernel)
set_option maxRecDepth 20000 in
theorem law_c1 {p : Program} {l : Launch} {e : Env} {s : State} {m : MethodId} {below : List Frame} {meth : Method} {c : Code} {D : va_G} {cy : Nat → ClassId} {b L : Nat} {xs : Nat → Int32} {Rel : Mem → Prop} {ad : Nat → Nat} (C0 : lw_At p s m meth c b L xs) (hls : l.stackTraces = false) (hG : GX D cy (fun q : Nat => s.heap.size ≤ q) s) (hO : OPS Rel) {x4 : Int32} (hi1 : vp_in (x4 + 1) L) (hi2 : vp_in (x4 + 2) L) (hi3 : vp_in (x4 + 3) L) (hi4 : vp_in (x4 + 4) L) (hi5 : vp_in (x4 + 5) L) {z cells slots : Nat} {σ : Mem} {H : Heap} {locs : List Loc} {ls : Array Slot} (hcs : cells + 1 ≤ 601024 ∧ slots + 6 ≤ 7293034) (hRel : Rel σ) (hM : MS D cy ad (fun q : Nat => s.heap.size ≤ q) s.heap z σ H locs) (hl : lv_has ls 8 [(0, .ref b), (1, .ref (ad 0)), (2, .ref (ad 304)), (3, .ref (ad 330)), (4, .int x4)]) (hnext : ∀ (z cells' slots' : Nat) (τ : Mem) (H : Heap) (locs : List Loc) (ls : Array Slot), cells' ≤ cells + 1 → slots' ≤ slots + 6 → Rel τ → MS D cy ad (fun q : Nat => s.heap.size ≤ q) s.heap z τ H locs → lv_has ls 8 [(0, .ref b), (1, .ref (ad 0)), (2, .ref (ad 304)), (3, .ref (ad 330)), (4, .int x4)] → W p l e room_1 s m #[Value.ref b] below meth c H locs cells' slots' (lw_Z below #[Value.ref b] s) (F0 m 1025 ls [])) : W p l e room_1 s m #[Value.ref b] below meth c H locs cells slots (lw_Z below #[Value.ref b] s) (F0 m 205 ls []) := by
  obtain ⟨hx, hb, hr, hml, hown, hts, hX, hbl, hlocks, hgv⟩ := id C0
  have hbA : ¬ (fun q : Nat => s.heap.size ≤ q) b := Nat.not_le.mpr hbl
  have hC : CallFix p m c cL_law 8 s #[Value.ref b] WALL RL := ⟨hx, hb, hml, hown, fun w hw => hts w (List.mem_filter.mp hw).1⟩
  have hRel0 := hRel
  obtain ⟨r, σ1, σ2, e1, k1, e2, hRel2⟩ := (hO.2.2.1 (xs (x4 + 1).toNatClampNeg)) σ hRel
  refine lv_aload_n hx hb dL_law_205 rfl (lv_at hl 1 rfl) ?_
  refine lv_aload_n hx hb dL_law_206 rfl (lv_at hl 0 rfl) ?_
  refine lv_iload hx hb dL_law_207 (lv_at hl 4 rfl) ?_
  refine lv_iconst (v := 1) hx hb dL_law_209 (by decide) ?_
  refine lv_iadd hx hb dL_law_210 ?_
  refine va_sld hx hb hX hbl hbA hM.2.2.1 hi1 dL_law_211 ?_
  refine callVg_I (As := [.int (xs (x4 + 1).toNatClampNeg)]) ⟨by show _ ≤ 601024; omega, by show _ ≤ 7293034; omega⟩ (hO.1 _ hRel) (by decide) rfl mlL_40 wiL_X8_end wsL_X8_end rfl wnL_X8 wcL_X8_end hdL_X8_end hC hG.1 hM (cX8_end_ok e1) ⟨by decide, by decide⟩ hl.1 (Nat.le_of_ble_eq_true rfl) dL_law_212 rfl (fun H locs hM => ?_)
  refine lv_aload_n hx hb dL_law_215 rfl (lv_at hl 2 rfl) ?_
  refine lv_aload_n hx hb dL_law_216 rfl (lv_at hl 0 rfl) ?_
  refine lv_iload hx hb dL_law_217 (lv_at hl 4 rfl) ?_
  refine lv_iconst (v := 1) hx hb dL_law_219 (by decide) ?_
  refine lv_iadd hx hb dL_law_220 ?_
  refine va_sld hx hb hX hbl hbA hM.2.2.1 hi1 dL_law_221 ?_
  refine callVg_I (As := [.int (xs (x4 + 1).toNatClampNeg)]) ⟨by show _ ≤ 601024; omega, by show _ ≤ 7293034; omega⟩ k1 (by decide) rfl mlL_44 wiL_X9_end wsL_X9_end rfl wnL_X9 wcL_X9_end hdL_X9_end hC hG.1 hM (cX9_end_ok e2) ⟨by decide, by decide⟩ hl.1 (Nat.le_of_ble_eq_true rfl) dL_law_222 rfl (fun H locs hM => ?_)
  refine lv_icmp_eq (tgt := 1025) hx hb dL_law_225 (by decide) (fun _ => ?_) (fun c0 => absurd rfl c0)
  exact hnext _ _ _ _ _ _ _ (Nat.le_succ _) (Nat.le_add_right _ 6) hRel2 hM (lv_sub hl [0, 1, 2, 3, 4] rfl)
theorem mlL_45 : Cond.methodLink RL 45 yX8_plans ∈ WALL := WALL_of (List.mem_of_getElem? (i := 377) (by decide +kernel)) (by decide +kernel)
theorem hdL_X8_plans : yX8_plans.cls ≠ "java/lang/invoke/MethodHandle" ∧ yX8_plans.cls ≠ "java/lang/invoke/VarHandle" ∧ (parseMethodDescriptor yX8_plans.desc).map (fun d => d.parameters.length) = some 0 := by decide +kernel
theorem wcL_X8_plans : Cond.code yX8_plans cX8_plans 2 (some .int) ∈ WALL := WALL_of (List.mem_of_getElem? (i := 380) (by decide +kernel)) (by decide +kernel)
theorem wiL_X8_plans : Cond.instanceMethod yX8_plans ∈ WALL := WALL_of (List.mem_of_getElem? (i := 378) (by decide +kernel)) (by decide +kernel)
theorem wsL_X8_plans : Cond.selects RX8 yX8_plans yX8_plans ∈ WALL := WALL_of (List.mem_of_getElem? (i := 379) (by decide +kernel)) (by decide +kernel)
theorem mlL_49 : Cond.methodLink RL 49 yX9_plans ∈ WALL := WALL_of (List.mem_of_getElem? (i := 927) (by decide +kernel)) (by decide +kernel)
theorem hdL_X9_plans : yX9_plans.cls ≠ "java/lang/invoke/MethodHandle" ∧ yX9_plans.cls ≠ "java/lang/invoke/VarHandle" ∧ (parseMethodDescriptor yX9_plans.desc).map (fun d => d.parameters.length) = some 0 := by decide +kernel
theorem wcL_X9_plans : Cond.code yX9_plans cX9_plans 7 (some .int) ∈ WALL := WALL_of (List.mem_of_getElem? (i := 930) (by decide +kernel)) (by decide +kernel)
theorem wiL_X9_plans : Cond.instanceMethod yX9_plans ∈ WALL := WALL_of (List.mem_of_getElem? (i := 928) (by decide +kernel)) (by decide +kernel)
theorem wsL_X9_plans : Cond.selects RX9 yX9_plans yX9_plans ∈ WALL := WALL_of (List.mem_of_getElem? (i := 929) (by decide +kernel)) (by decide +kernel)
set_option maxRecDepth 20000 in
theorem law_c2 {p : Program} {l : Launch} {e : Env} {s : State} {m : MethodId} {below : List Frame} {meth : Method} {c : Code} {D : va_G} {cy : Nat → ClassId} {b L : Nat} {xs : Nat → Int32} {Rel : Mem → Prop} {ad : Nat → Nat} (C0 : lw_At p s m meth c b L xs) (hls : l.stackTraces = false) (hG : GX D cy (fun q : Nat => s.heap.size ≤ q) s) (hO : OPS Rel) {x4 : Int32} (hi1 : vp_in (x4 + 1) L) (hi2 : vp_in (x4 + 2) L) (hi3 : vp_in (x4 + 3) L) (hi4 : vp_in (x4 + 4) L) (hi5 : vp_in (x4 + 5) L) {z cells slots : Nat} {σ : Mem} {H : Heap} {locs : List Loc} {ls : Array Slot} (hcs : cells + 1 ≤ 601024 ∧ slots + 6 ≤ 7293034) (hRel : Rel σ) (hM : MS D cy ad (fun q : Nat => s.heap.size ≤ q) s.heap z σ H locs) (hl : lv_has ls 8 [(0, .ref b), (1, .ref (ad 0)), (2, .ref (ad 304)), (3, .ref (ad 330)), (4, .int x4)]) (hnext : ∀ (z cells' slots' : Nat) (τ : Mem) (H : Heap) (locs : List Loc) (ls : Array Slot), cells' ≤ cells + 1 → slots' ≤ slots + 6 → Rel τ → MS D cy ad (fun q : Nat => s.heap.size ≤ q) s.heap z τ H locs → lv_has ls 8 [(0, .ref b), (1, .ref (ad 0)), (2, .ref (ad 304)), (3, .ref (ad 330)), (4, .int x4)] → W p l e room_1 s m #[Value.ref b] below meth c H locs cells' slots' (lw_Z below #[Value.ref b] s) (F0 m 1025 ls [])) : W p l e room_1 s m #[Value.ref b] below meth c H locs cells slots (lw_Z below #[Value.ref b] s) (F0 m 230 ls []) := by
  obtain ⟨hx, hb, hr, hml, hown, hts, hX, hbl, hlocks, hgv⟩ := id C0
  have hbA : ¬ (fun q : Nat => s.heap.size ≤ q) b := Nat.not_le.mpr hbl
  have hC : CallFix p m c cL_law 8 s #[Value.ref b] WALL RL := ⟨hx, hb, hml, hown, fun w hw => hts w (List.mem_filter.mp hw).1⟩
  have hRel0 := hRel
  obtain ⟨r, σ1, σ2, e1, k1, e2, hRel2⟩ := (hO.2.2.2.1 ) σ hRel
  refine lv_aload_n hx hb dL_law_230 rfl (lv_at hl 1 rfl) ?_
  refine callVg_I (As := []) ⟨by show _ ≤ 601024; omega, by show _ ≤ 7293034; omega⟩ (hO.1 _ hRel) (by decide) rfl mlL_45 wiL_X8_plans wsL_X8_plans rfl wnL_X8 wcL_X8_plans hdL_X8_plans hC hG.1 hM (cX8_plans_ok e1) ⟨by decide, by decide⟩ hl.1 (Nat.le_of_ble_eq_true rfl) dL_law_231 rfl (fun H locs hM => ?_)
  refine lv_aload_n hx hb dL_law_234 rfl (lv_at hl 2 rfl) ?_
  refine callVg_I (As := []) ⟨by show _ ≤ 601024; omega, by show _ ≤ 7293034; omega⟩ k1 (by decide) rfl mlL_49 wiL_X9_plans wsL_X9_plans rfl wnL_X9 wcL_X9_plans hdL_X9_plans hC hG.1 hM (cX9_plans_ok e2) ⟨by decide, by decide⟩ hl.1 (Nat.le_of_ble_eq_true rfl) dL_law_235 rfl (fun H locs hM => ?_)
  refine lv_icmp_eq (tgt := 1025) hx hb dL_law_238 (by decide) (fun _ => ?_) (fun c0 => absurd rfl c0)
  exact hnext _ _ _ _ _ _ _ (Nat.le_succ _) (Nat.le_add_right _ 6) hRel2 hM (lv_sub hl [0, 1, 2, 3, 4] rfl)
theorem mlL_50 : Cond.methodLink RL 50 yX8_fault ∈ WALL := WALL_of (List.mem_of_getElem? (i := 490) (by decide +kernel)) (by decide +kernel)
theorem hdL_X8_fault : yX8_fault.cls ≠ "java/lang/invoke/MethodHandle" ∧ yX8_fault.cls ≠ "java/lang/invoke/VarHandle" ∧ (parseMethodDescriptor yX8_fault.desc).map (fun d => d.parameters.length) = some 0 := by decide +kernel
theorem wcL_X8_fault : Cond.code yX8_fault cX8_fault 1 (some .int) ∈ WALL := WALL_of (List.mem_of_getElem? (i := 493) (by decide +kernel)) (by decide +kernel)
theorem wiL_X8_fault : Cond.instanceMethod yX8_fault ∈ WALL := WALL_of (List.mem_of_getElem? (i := 491) (by decide +kernel)) (by decide +kernel)
theorem wsL_X8_fault : Cond.selects RX8 yX8_fault yX8_fault ∈ WALL := WALL_of (List.mem_of_getElem? (i := 492) (by decide +kernel)) (by decide +kernel)
theorem mlL_53 : Cond.methodLink RL 53 yX9_fault ∈ WALL := WALL_of (List.mem_of_getElem? (i := 1000) (by decide +kernel)) (by decide +kernel)
theorem hdL_X9_fault : yX9_fault.cls ≠ "java/lang/invoke/MethodHandle" ∧ yX9_fault.cls ≠ "java/lang/invoke/VarHandle" ∧ (parseMethodDescriptor yX9_fault.desc).map (fun d => d.parameters.length) = some 0 := by decide +kernel
theorem wcL_X9_fault : Cond.code yX9_fault cX9_fault 1 (some .int) ∈ WALL := WALL_of (List.mem_of_getElem? (i := 1003) (by decide +kernel)) (by decide +kernel)
theorem wiL_X9_fault : Cond.instanceMethod yX9_fault ∈ WALL := WALL_of (List.mem_of_getElem? (i := 1001) (by decide +kernel)) (by decide +kernel)
theorem wsL_X9_fault : Cond.selects RX9 yX9_fault yX9_fault ∈ WALL := WALL_of (List.mem_of_getElem? (i := 1002) (by decide +kernel)) (by decide +kernel)
set_option maxRecDepth 20000 in
theorem law_c3 {p : Program} {l : Launch} {e : Env} {s : State} {m : MethodId} {below : List Frame} {meth : Method} {c : Code} {D : va_G} {cy : Nat → ClassId} {b L : Nat} {xs : Nat → Int32} {Rel : Mem → Prop} {ad : Nat → Nat} (C0 : lw_At p s m meth c b L xs) (hls : l.stackTraces = false) (hG : GX D cy (fun q : Nat => s.heap.size ≤ q) s) (hO : OPS Rel) {x4 : Int32} (hi1 : vp_in (x4 + 1) L) (hi2 : vp_in (x4 + 2) L) (hi3 : vp_in (x4 + 3) L) (hi4 : vp_in (x4 + 4) L) (hi5 : vp_in (x4 + 5) L) {z cells slots : Nat} {σ : Mem} {H : Heap} {locs : List Loc} {ls : Array Slot} (hcs : cells + 1 ≤ 601024 ∧ slots + 6 ≤ 7293034) (hRel : Rel σ) (hM : MS D cy ad (fun q : Nat => s.heap.size ≤ q) s.heap z σ H locs) (hl : lv_has ls 8 [(0, .ref b), (1, .ref (ad 0)), (2, .ref (ad 304)), (3, .ref (ad 330)), (4, .int x4)]) (hnext : ∀ (z cells' slots' : Nat) (τ : Mem) (H : Heap) (locs : List Loc) (ls : Array Slot), cells' ≤ cells + 1 → slots' ≤ slots + 6 → Rel τ → MS D cy ad (fun q : Nat => s.heap.size ≤ q) s.heap z τ H locs → lv_has ls 8 [(0, .ref b), (1, .ref (ad 0)), (2, .ref (ad 304)), (3, .ref (ad 330)), (4, .int x4)] → W p l e room_1 s m #[Value.ref b] below meth c H locs cells' slots' (lw_Z below #[Value.ref b] s) (F0 m 1025 ls [])) : W p l e room_1 s m #[Value.ref b] below meth c H locs cells slots (lw_Z below #[Value.ref b] s) (F0 m 243 ls []) := by
  obtain ⟨hx, hb, hr, hml, hown, hts, hX, hbl, hlocks, hgv⟩ := id C0
  have hbA : ¬ (fun q : Nat => s.heap.size ≤ q) b := Nat.not_le.mpr hbl
  have hC : CallFix p m c cL_law 8 s #[Value.ref b] WALL RL := ⟨hx, hb, hml, hown, fun w hw => hts w (List.mem_filter.mp hw).1⟩
  have hRel0 := hRel
  obtain ⟨r, σ1, σ2, e1, k1, e2, hRel2⟩ := (hO.2.2.2.2.1 ) σ hRel
  refine lv_aload_n hx hb dL_law_243 rfl (lv_at hl 1 rfl) ?_
  refine callVg_I (As := []) ⟨by show _ ≤ 601024; omega, by show _ ≤ 7293034; omega⟩ (hO.1 _ hRel) (by decide) rfl mlL_50 wiL_X8_fault wsL_X8_fault rfl wnL_X8 wcL_X8_fault hdL_X8_fault hC hG.1 hM (cX8_fault_ok e1) ⟨by decide, by decide⟩ hl.1 (Nat.le_of_ble_eq_true rfl) dL_law_244 rfl (fun H locs hM => ?_)
  refine lv_aload_n hx hb dL_law_247 rfl (lv_at hl 2 rfl) ?_
  refine callVg_I (As := []) ⟨by show _ ≤ 601024; omega, by show _ ≤ 7293034; omega⟩ k1 (by decide) rfl mlL_53 wiL_X9_fault wsL_X9_fault rfl wnL_X9 wcL_X9_fault hdL_X9_fault hC hG.1 hM (cX9_fault_ok e2) ⟨by decide, by decide⟩ hl.1 (Nat.le_of_ble_eq_true rfl) dL_law_248 rfl (fun H locs hM => ?_)
  refine lv_icmp_eq (tgt := 1025) hx hb dL_law_251 (by decide) (fun _ => ?_) (fun c0 => absurd rfl c0)
  exact hnext _ _ _ _ _ _ _ (Nat.le_succ _) (Nat.le_add_right _ 6) hRel2 hM (lv_sub hl [0, 1, 2, 3, 4] rfl)
theorem mlL_54 : Cond.methodLink RL 54 yL_plan ∈ WALL := WALL_of (List.mem_of_getElem? (i := 651) (by decide +kernel)) (by decide +kernel)
theorem hdL_L_plan : yL_plan.cls ≠ "java/lang/invoke/MethodHandle" ∧ yL_plan.cls ≠ "java/lang/invoke/VarHandle" ∧ (parseMethodDescriptor yL_plan.desc).map (fun d => d.parameters.length) = some 4 := by decide +kernel
theorem wcL_L_plan : Cond.codeWith yL_plan cL_plan 5 (some .int) [(0, 10, 13, 13)] ∈ WALL := WALL_of (by decide +kernel) (by decide +kernel)
theorem wtL_L_plan : Cond.static yL_plan ∈ WALL := WALL_of (List.mem_of_getElem? (i := 652) (by decide +kernel)) (by decide +kernel)
theorem mlL_59 : Cond.methodLink RL 59 yX9_plan ∈ WALL := WALL_of (List.mem_of_getElem? (i := 1004) (by decide +kernel)) (by decide +kernel)
theorem hdL_X9_plan : yX9_plan.cls ≠ "java/lang/invoke/MethodHandle" ∧ yX9_plan.cls ≠ "java/lang/invoke/VarHandle" ∧ (parseMethodDescriptor yX9_plan.desc).map (fun d => d.parameters.length) = some 2 := by decide +kernel
theorem wcL_X9_plan : Cond.code yX9_plan cX9_plan 5 (some .int) ∈ WALL := WALL_of (List.mem_of_getElem? (i := 1007) (by decide +kernel)) (by decide +kernel)
theorem wiL_X9_plan : Cond.instanceMethod yX9_plan ∈ WALL := WALL_of (List.mem_of_getElem? (i := 1005) (by decide +kernel)) (by decide +kernel)
theorem wsL_X9_plan : Cond.selects RX9 yX9_plan yX9_plan ∈ WALL := WALL_of (List.mem_of_getElem? (i := 1006) (by decide +kernel)) (by decide +kernel)
theorem mlL_60 : Cond.methodLink RL 60 yX9_thrown ∈ WALL := WALL_of (List.mem_of_getElem? (i := 911) (by decide +kernel)) (by decide +kernel)
theorem hdL_X9_thrown : yX9_thrown.cls ≠ "java/lang/invoke/MethodHandle" ∧ yX9_thrown.cls ≠ "java/lang/invoke/VarHandle" ∧ (parseMethodDescriptor yX9_thrown.desc).map (fun d => d.parameters.length) = some 0 := by decide +kernel
theorem wcL_X9_thrown : Cond.code yX9_thrown cX9_thrown 1 (some .int) ∈ WALL := WALL_of (List.mem_of_getElem? (i := 914) (by decide +kernel)) (by decide +kernel)
theorem wiL_X9_thrown : Cond.instanceMethod yX9_thrown ∈ WALL := WALL_of (List.mem_of_getElem? (i := 912) (by decide +kernel)) (by decide +kernel)
theorem wsL_X9_thrown : Cond.selects RX9 yX9_thrown yX9_thrown ∈ WALL := WALL_of (List.mem_of_getElem? (i := 913) (by decide +kernel)) (by decide +kernel)
set_option maxRecDepth 20000 in
theorem law_c4 {p : Program} {l : Launch} {e : Env} {s : State} {m : MethodId} {below : List Frame} {meth : Method} {c : Code} {D : va_G} {cy : Nat → ClassId} {b L : Nat} {xs : Nat → Int32} {Rel : Mem → Prop} {ad : Nat → Nat} (C0 : lw_At p s m meth c b L xs) (hls : l.stackTraces = false) (hG : GX D cy (fun q : Nat => s.heap.size ≤ q) s) (hO : OPS Rel) {x4 : Int32} (hi1 : vp_in (x4 + 1) L) (hi2 : vp_in (x4 + 2) L) (hi3 : vp_in (x4 + 3) L) (hi4 : vp_in (x4 + 4) L) (hi5 : vp_in (x4 + 5) L) {z cells slots : Nat} {σ : Mem} {H : Heap} {locs : List Loc} {ls : Array Slot} (hcs : cells + 1 ≤ 601024 ∧ slots + 6 ≤ 7293034) (hRel : Rel σ) (hM : MS D cy ad (fun q : Nat => s.heap.size ≤ q) s.heap z σ H locs) (hl : lv_has ls 8 [(0, .ref b), (1, .ref (ad 0)), (2, .ref (ad 304)), (3, .ref (ad 330)), (4, .int x4)]) (hnext : ∀ (z cells' slots' : Nat) (τ : Mem) (H : Heap) (locs : List Loc) (ls : Array Slot), cells' ≤ cells + 1 → slots' ≤ slots + 6 → Rel τ → MS D cy ad (fun q : Nat => s.heap.size ≤ q) s.heap z τ H locs → lv_has ls 8 [(0, .ref b), (1, .ref (ad 0)), (2, .ref (ad 304)), (3, .ref (ad 330)), (4, .int x4)] → W p l e room_1 s m #[Value.ref b] below meth c H locs cells' slots' (lw_Z below #[Value.ref b] s) (F0 m 1025 ls [])) : W p l e room_1 s m #[Value.ref b] below meth c H locs cells slots (lw_Z below #[Value.ref b] s) (F0 m 256 ls []) := by
  obtain ⟨hx, hb, hr, hml, hown, hts, hX, hbl, hlocks, hgv⟩ := id C0
  have hbA : ¬ (fun q : Nat => s.heap.size ≤ q) b := Nat.not_le.mpr hbl
  have hC : CallFix p m c cL_law 8 s #[Value.ref b] WALL RL := ⟨hx, hb, hml, hown, fun w hw => hts w (List.mem_filter.mp hw).1⟩
  have hRel0 := hRel
  obtain ⟨r, σ1, b0, σ2, e1, ko1, lo1, k1, e2, k2, ht, ko2, lo2, hv, hRel2⟩ := (hO.2.2.2.2.2.1 (xs (x4 + 1).toNatClampNeg) (xs (x4 + 2).toNatClampNeg)) σ hRel
  refine lv_aload_n hx hb dL_law_256 rfl (lv_at hl 1 rfl) ?_
  refine lv_aload_n hx hb dL_law_257 rfl (lv_at hl 0 rfl) ?_
  refine lv_iload hx hb dL_law_258 (lv_at hl 4 rfl) ?_
  refine lv_iconst (v := 1) hx hb dL_law_260 (by decide) ?_
  refine lv_iadd hx hb dL_law_261 ?_
  refine va_sld hx hb hX hbl hbA hM.2.2.1 hi1 dL_law_262 ?_
  refine lv_aload_n hx hb dL_law_263 rfl (lv_at hl 0 rfl) ?_
  refine lv_iload hx hb dL_law_264 (lv_at hl 4 rfl) ?_
  refine lv_iconst (v := 2) hx hb dL_law_266 (by decide) ?_
  refine lv_iadd hx hb dL_law_267 ?_
  refine va_sld hx hb hX hbl hbA hM.2.2.1 hi2 dL_law_268 ?_
  refine lv_aload_n hx hb dL_law_269 rfl (lv_at hl 3 rfl) ?_
  refine callH (As := [.ref (ad 0), .int (xs (x4 + 1).toNatClampNeg), .int (xs (x4 + 2).toNatClampNeg), .ref (ad 330)]) hcs mlL_54 wtL_L_plan wnL_L wcL_L_plan hdL_L_plan hC hG hM (cL_plan_ok hls (hO.1 _ hRel0) e1 ko1 lo1) ⟨by decide, by decide⟩ hl.1 (Nat.le_of_ble_eq_true rfl) dL_law_270 rfl (fun z H locs hM => ?_)
  refine lv_istore (lv' := [(5, .int (kof r)), (0, .ref b), (1, .ref (ad 0)), (2, .ref (ad 304)), (3, .ref (ad 330)), (4, .int x4)]) hx hb dL_law_273 hl (by decide) rfl (fun ls hl => ?_)
  refine lv_aload_n hx hb dL_law_275 rfl (lv_at hl 3 rfl) ?_
  refine lv_aload_n hx hb dL_law_276 rfl (lv_at hl 1 rfl) ?_
  refine lv_iload hx hb dL_law_277 (lv_at hl 5 rfl) ?_
  refine lv_iconst (v := 1) hx hb dL_law_279 (by decide) ?_
  refine lv_iadd hx hb dL_law_280 ?_
  refine va_sld hx hb hX hbl hbA hM.2.2.1 hi1 dL_law_281 ?_
  refine lv_aload_n hx hb dL_law_282 rfl (lv_at hl 1 rfl) ?_
  refine lv_iload hx hb dL_law_283 (lv_at hl 5 rfl) ?_
  refine lv_iconst (v := 2) hx hb dL_law_285 (by decide) ?_
  refine lv_iadd hx hb dL_law_286 ?_
  refine va_sld hx hb hX hbl hbA hM.2.2.1 hi2 dL_law_287 ?_
  refine callVg_I (As := [.int (xs (x4 + 1).toNatClampNeg), .int (xs (x4 + 2).toNatClampNeg)]) ⟨by show _ ≤ 601024; omega, by show _ ≤ 7293034; omega⟩ k1 (by decide) rfl mlL_59 wiL_X9_plan wsL_X9_plan rfl wnL_X9 wcL_X9_plan hdL_X9_plan hC hG.1 hM (cX9_plan_ok e2) ⟨by decide, by decide⟩ hl.1 (Nat.le_of_ble_eq_true rfl) dL_law_288 rfl (fun H locs hM => ?_)
  refine lv_istore (lv' := [(6, .int b0), (5, .int (kof r)), (0, .ref b), (1, .ref (ad 0)), (2, .ref (ad 304)), (3, .ref (ad 330)), (4, .int x4)]) hx hb dL_law_291 hl (by decide) rfl (fun ls hl => ?_)
  refine lv_aload_n hx hb dL_law_293 rfl (lv_at hl 4 rfl) ?_
  refine callVg_I (As := []) ⟨by show _ ≤ 601024; omega, by show _ ≤ 7293034; omega⟩ k2 (by decide) rfl mlL_60 wiL_X9_thrown wsL_X9_thrown rfl wnL_X9 wcL_X9_thrown hdL_X9_thrown hC hG.1 hM (cX9_thrown_ok (thrown_ok k2 ht)) ⟨by decide, by decide⟩ hl.1 (Nat.le_of_ble_eq_true rfl) dL_law_294 rfl (fun H locs hM => ?_)
  refine lv_iload hx hb dL_law_297 (lv_at hl 1 rfl) ?_
  refine lv_icmp_eq (tgt := 304) hx hb dL_law_299 (by decide) (fun _ => ?_) (fun c0 => absurd rfl c0)
  refine lv_iload hx hb dL_law_304 (lv_at hl 1 rfl) ?_
  refine lv_if_ne (tgt := 321) hx hb dL_law_306 (by decide) (fun c_k => ?_) (fun c_k => ?_)
  · skip
    refine lv_goto (tgt := 1025) hx hb dL_law_321 (by decide) ?_
    exact hnext _ _ _ _ _ _ _ (Nat.le_refl _) (Nat.le_refl _) hRel2 hM (lv_sub hl [2, 3, 4, 5, 6] rfl)
  · skip
    refine lv_aload_n hx hb dL_law_309 rfl (lv_at hl 5 rfl) ?_
    refine lv_iconst (v := 0) hx hb dL_law_310 (by decide) ?_
    refine g_lald (v := some 330) hx hb hG.1 hM (aJ_out ko2 lo2 (hv c_k)) dL_law_311 ?_
    refine lv_iload hx hb dL_law_312 (lv_at hl 0 rfl) ?_
    refine lv_i2l hx hb dL_law_314 rfl ?_
    refine lc_eq (tgt := 321) hx hb dL_law_315 dL_law_316 (by decide) (fun _ => ?_) (fun c0 => absurd rfl c0)
    refine lv_goto (tgt := 1025) hx hb dL_law_321 (by decide) ?_
    exact hnext _ _ _ _ _ _ _ (Nat.le_refl _) (Nat.le_refl _) hRel2 hM (lv_sub hl [2, 3, 4, 5, 6] rfl)
theorem mlL_63 : Cond.methodLink RL 63 yX8_name ∈ WALL := WALL_of (List.mem_of_getElem? (i := 494) (by decide +kernel)) (by decide +kernel)
theorem hdL_X8_name : yX8_name.cls ≠ "java/lang/invoke/MethodHandle" ∧ yX8_name.cls ≠ "java/lang/invoke/VarHandle" ∧ (parseMethodDescriptor yX8_name.desc).map (fun d => d.parameters.length) = some 1 := by decide +kernel
theorem wcL_X8_name : Cond.code yX8_name cX8_name 3 (some .int) ∈ WALL := WALL_of (List.mem_of_getElem? (i := 497) (by decide +kernel)) (by decide +kernel)
theorem wiL_X8_name : Cond.instanceMethod yX8_name ∈ WALL := WALL_of (List.mem_of_getElem? (i := 495) (by decide +kernel)) (by decide +kernel)
theorem wsL_X8_name : Cond.selects RX8 yX8_name yX8_name ∈ WALL := WALL_of (List.mem_of_getElem? (i := 496) (by decide +kernel)) (by decide +kernel)
theorem mlL_66 : Cond.methodLink RL 66 yX9_name ∈ WALL := WALL_of (List.mem_of_getElem? (i := 1016) (by decide +kernel)) (by decide +kernel)
theorem hdL_X9_name : yX9_name.cls ≠ "java/lang/invoke/MethodHandle" ∧ yX9_name.cls ≠ "java/lang/invoke/VarHandle" ∧ (parseMethodDescriptor yX9_name.desc).map (fun d => d.parameters.length) = some 1 := by decide +kernel
theorem wcL_X9_name : Cond.code yX9_name cX9_name 5 (some .int) ∈ WALL := WALL_of (List.mem_of_getElem? (i := 1019) (by decide +kernel)) (by decide +kernel)
theorem wiL_X9_name : Cond.instanceMethod yX9_name ∈ WALL := WALL_of (List.mem_of_getElem? (i := 1017) (by decide +kernel)) (by decide +kernel)
theorem wsL_X9_name : Cond.selects RX9 yX9_name yX9_name ∈ WALL := WALL_of (List.mem_of_getElem? (i := 1018) (by decide +kernel)) (by decide +kernel)
set_option maxRecDepth 20000 in
theorem law_c5 {p : Program} {l : Launch} {e : Env} {s : State} {m : MethodId} {below : List Frame} {meth : Method} {c : Code} {D : va_G} {cy : Nat → ClassId} {b L : Nat} {xs : Nat → Int32} {Rel : Mem → Prop} {ad : Nat → Nat} (C0 : lw_At p s m meth c b L xs) (hls : l.stackTraces = false) (hG : GX D cy (fun q : Nat => s.heap.size ≤ q) s) (hO : OPS Rel) {x4 : Int32} (hi1 : vp_in (x4 + 1) L) (hi2 : vp_in (x4 + 2) L) (hi3 : vp_in (x4 + 3) L) (hi4 : vp_in (x4 + 4) L) (hi5 : vp_in (x4 + 5) L) {z cells slots : Nat} {σ : Mem} {H : Heap} {locs : List Loc} {ls : Array Slot} (hcs : cells + 1 ≤ 601024 ∧ slots + 6 ≤ 7293034) (hRel : Rel σ) (hM : MS D cy ad (fun q : Nat => s.heap.size ≤ q) s.heap z σ H locs) (hl : lv_has ls 8 [(0, .ref b), (1, .ref (ad 0)), (2, .ref (ad 304)), (3, .ref (ad 330)), (4, .int x4)]) (hnext : ∀ (z cells' slots' : Nat) (τ : Mem) (H : Heap) (locs : List Loc) (ls : Array Slot), cells' ≤ cells + 1 → slots' ≤ slots + 6 → Rel τ → MS D cy ad (fun q : Nat => s.heap.size ≤ q) s.heap z τ H locs → lv_has ls 8 [(0, .ref b), (1, .ref (ad 0)), (2, .ref (ad 304)), (3, .ref (ad 330)), (4, .int x4)] → W p l e room_1 s m #[Value.ref b] below meth c H locs cells' slots' (lw_Z below #[Value.ref b] s) (F0 m 1025 ls [])) : W p l e room_1 s m #[Value.ref b] below meth c H locs cells slots (lw_Z below #[Value.ref b] s) (F0 m 324 ls []) := by
  obtain ⟨hx, hb, hr, hml, hown, hts, hX, hbl, hlocks, hgv⟩ := id C0
  have hbA : ¬ (fun q : Nat => s.heap.size ≤ q) b := Nat.not_le.mpr hbl
  have hC : CallFix p m c cL_law 8 s #[Value.ref b] WALL RL := ⟨hx, hb, hml, hown, fun w hw => hts w (List.mem_filter.mp hw).1⟩
  have hRel0 := hRel
  obtain ⟨r, σ1, σ2, e1, k1, e2, hRel2⟩ := (hO.2.2.2.2.2.2.1 (xs (x4 + 1).toNatClampNeg)) σ hRel
  refine lv_aload_n hx hb dL_law_324 rfl (lv_at hl 1 rfl) ?_
  refine lv_aload_n hx hb dL_law_325 rfl (lv_at hl 0 rfl) ?_
  refine lv_iload hx hb dL_law_326 (lv_at hl 4 rfl) ?_
  refine lv_iconst (v := 1) hx hb dL_law_328 (by decide) ?_
  refine lv_iadd hx hb dL_law_329 ?_
  refine va_sld hx hb hX hbl hbA hM.2.2.1 hi1 dL_law_330 ?_
  refine callVg_I (As := [.int (xs (x4 + 1).toNatClampNeg)]) ⟨by show _ ≤ 601024; omega, by show _ ≤ 7293034; omega⟩ (hO.1 _ hRel) (by decide) rfl mlL_63 wiL_X8_name wsL_X8_name rfl wnL_X8 wcL_X8_name hdL_X8_name hC hG.1 hM (cX8_name_ok e1) ⟨by decide, by decide⟩ hl.1 (Nat.le_of_ble_eq_true rfl) dL_law_331 rfl (fun H locs hM => ?_)
  refine lv_aload_n hx hb dL_law_334 rfl (lv_at hl 2 rfl) ?_
  refine lv_aload_n hx hb dL_law_335 rfl (lv_at hl 0 rfl) ?_
  refine lv_iload hx hb dL_law_336 (lv_at hl 4 rfl) ?_
  refine lv_iconst (v := 1) hx hb dL_law_338 (by decide) ?_
  refine lv_iadd hx hb dL_law_339 ?_
  refine va_sld hx hb hX hbl hbA hM.2.2.1 hi1 dL_law_340 ?_
  refine callVg_I (As := [.int (xs (x4 + 1).toNatClampNeg)]) ⟨by show _ ≤ 601024; omega, by show _ ≤ 7293034; omega⟩ k1 (by decide) rfl mlL_66 wiL_X9_name wsL_X9_name rfl wnL_X9 wcL_X9_name hdL_X9_name hC hG.1 hM (cX9_name_ok e2) ⟨by decide, by decide⟩ hl.1 (Nat.le_of_ble_eq_true rfl) dL_law_341 rfl (fun H locs hM => ?_)
  refine lv_icmp_eq (tgt := 1025) hx hb dL_law_344 (by decide) (fun _ => ?_) (fun c0 => absurd rfl c0)
  exact hnext _ _ _ _ _ _ _ (Nat.le_succ _) (Nat.le_add_right _ 6) hRel2 hM (lv_sub hl [0, 1, 2, 3, 4] rfl)
theorem mlL_67 : Cond.methodLink RL 67 yL_octet ∈ WALL := WALL_of (List.mem_of_getElem? (i := 720) (by decide +kernel)) (by decide +kernel)
theorem hdL_L_octet : yL_octet.cls ≠ "java/lang/invoke/MethodHandle" ∧ yL_octet.cls ≠ "java/lang/invoke/VarHandle" ∧ (parseMethodDescriptor yL_octet.desc).map (fun d => d.parameters.length) = some 3 := by decide +kernel
theorem wcL_L_octet : Cond.codeWith yL_octet cL_octet 4 (some .int) [(0, 9, 12, 13)] ∈ WALL := WALL_of (by decide +kernel) (by decide +kernel)
theorem wtL_L_octet : Cond.static yL_octet ∈ WALL := WALL_of (List.mem_of_getElem? (i := 721) (by decide +kernel)) (by decide +kernel)
theorem mlL_70 : Cond.methodLink RL 70 yX9_octet ∈ WALL := WALL_of (List.mem_of_getElem? (i := 1020) (by decide +kernel)) (by decide +kernel)
theorem hdL_X9_octet : yX9_octet.cls ≠ "java/lang/invoke/MethodHandle" ∧ yX9_octet.cls ≠ "java/lang/invoke/VarHandle" ∧ (parseMethodDescriptor yX9_octet.desc).map (fun d => d.parameters.length) = some 1 := by decide +kernel
theorem wcL_X9_octet : Cond.code yX9_octet cX9_octet 2 (some .int) ∈ WALL := WALL_of (List.mem_of_getElem? (i := 1023) (by decide +kernel)) (by decide +kernel)
theorem wiL_X9_octet : Cond.instanceMethod yX9_octet ∈ WALL := WALL_of (List.mem_of_getElem? (i := 1021) (by decide +kernel)) (by decide +kernel)
theorem wsL_X9_octet : Cond.selects RX9 yX9_octet yX9_octet ∈ WALL := WALL_of (List.mem_of_getElem? (i := 1022) (by decide +kernel)) (by decide +kernel)
set_option maxRecDepth 20000 in
theorem law_c6 {p : Program} {l : Launch} {e : Env} {s : State} {m : MethodId} {below : List Frame} {meth : Method} {c : Code} {D : va_G} {cy : Nat → ClassId} {b L : Nat} {xs : Nat → Int32} {Rel : Mem → Prop} {ad : Nat → Nat} (C0 : lw_At p s m meth c b L xs) (hls : l.stackTraces = false) (hG : GX D cy (fun q : Nat => s.heap.size ≤ q) s) (hO : OPS Rel) {x4 : Int32} (hi1 : vp_in (x4 + 1) L) (hi2 : vp_in (x4 + 2) L) (hi3 : vp_in (x4 + 3) L) (hi4 : vp_in (x4 + 4) L) (hi5 : vp_in (x4 + 5) L) {z cells slots : Nat} {σ : Mem} {H : Heap} {locs : List Loc} {ls : Array Slot} (hcs : cells + 1 ≤ 601024 ∧ slots + 6 ≤ 7293034) (hRel : Rel σ) (hM : MS D cy ad (fun q : Nat => s.heap.size ≤ q) s.heap z σ H locs) (hl : lv_has ls 8 [(0, .ref b), (1, .ref (ad 0)), (2, .ref (ad 304)), (3, .ref (ad 330)), (4, .int x4)]) (hnext : ∀ (z cells' slots' : Nat) (τ : Mem) (H : Heap) (locs : List Loc) (ls : Array Slot), cells' ≤ cells + 1 → slots' ≤ slots + 6 → Rel τ → MS D cy ad (fun q : Nat => s.heap.size ≤ q) s.heap z τ H locs → lv_has ls 8 [(0, .ref b), (1, .ref (ad 0)), (2, .ref (ad 304)), (3, .ref (ad 330)), (4, .int x4)] → W p l e room_1 s m #[Value.ref b] below meth c H locs cells' slots' (lw_Z below #[Value.ref b] s) (F0 m 1025 ls [])) : W p l e room_1 s m #[Value.ref b] below meth c H locs cells slots (lw_Z below #[Value.ref b] s) (F0 m 349 ls []) := by
  obtain ⟨hx, hb, hr, hml, hown, hts, hX, hbl, hlocks, hgv⟩ := id C0
  have hbA : ¬ (fun q : Nat => s.heap.size ≤ q) b := Nat.not_le.mpr hbl
  have hC : CallFix p m c cL_law 8 s #[Value.ref b] WALL RL := ⟨hx, hb, hml, hown, fun w hw => hts w (List.mem_filter.mp hw).1⟩
  have hRel0 := hRel
  obtain ⟨r, σ1, b0, σ2, e1, ko1, lo1, k1, e2, k2, ht, ko2, lo2, hv, hRel2⟩ := (hO.2.2.2.2.2.2.2.1 (xs (x4 + 1).toNatClampNeg)) σ hRel
  refine lv_aload_n hx hb dL_law_349 rfl (lv_at hl 1 rfl) ?_
  refine lv_aload_n hx hb dL_law_350 rfl (lv_at hl 0 rfl) ?_
  refine lv_iload hx hb dL_law_351 (lv_at hl 4 rfl) ?_
  refine lv_iconst (v := 1) hx hb dL_law_353 (by decide) ?_
  refine lv_iadd hx hb dL_law_354 ?_
  refine va_sld hx hb hX hbl hbA hM.2.2.1 hi1 dL_law_355 ?_
  refine lv_aload_n hx hb dL_law_356 rfl (lv_at hl 3 rfl) ?_
  refine callH (As := [.ref (ad 0), .int (xs (x4 + 1).toNatClampNeg), .ref (ad 330)]) hcs mlL_67 wtL_L_octet wnL_L wcL_L_octet hdL_L_octet hC hG hM (cL_octet_ok hls (hO.1 _ hRel0) e1 ko1 lo1) ⟨by decide, by decide⟩ hl.1 (Nat.le_of_ble_eq_true rfl) dL_law_357 rfl (fun z H locs hM => ?_)
  refine lv_istore (lv' := [(5, .int (kof r)), (0, .ref b), (1, .ref (ad 0)), (2, .ref (ad 304)), (3, .ref (ad 330)), (4, .int x4)]) hx hb dL_law_360 hl (by decide) rfl (fun ls hl => ?_)
  refine lv_aload_n hx hb dL_law_362 rfl (lv_at hl 3 rfl) ?_
  refine lv_aload_n hx hb dL_law_363 rfl (lv_at hl 1 rfl) ?_
  refine lv_iload hx hb dL_law_364 (lv_at hl 5 rfl) ?_
  refine lv_iconst (v := 1) hx hb dL_law_366 (by decide) ?_
  refine lv_iadd hx hb dL_law_367 ?_
  refine va_sld hx hb hX hbl hbA hM.2.2.1 hi1 dL_law_368 ?_
  refine callVg_I (As := [.int (xs (x4 + 1).toNatClampNeg)]) ⟨by show _ ≤ 601024; omega, by show _ ≤ 7293034; omega⟩ k1 (by decide) rfl mlL_70 wiL_X9_octet wsL_X9_octet rfl wnL_X9 wcL_X9_octet hdL_X9_octet hC hG.1 hM (cX9_octet_ok e2) ⟨by decide, by decide⟩ hl.1 (Nat.le_of_ble_eq_true rfl) dL_law_369 rfl (fun H locs hM => ?_)
  refine lv_istore (lv' := [(6, .int b0), (5, .int (kof r)), (0, .ref b), (1, .ref (ad 0)), (2, .ref (ad 304)), (3, .ref (ad 330)), (4, .int x4)]) hx hb dL_law_372 hl (by decide) rfl (fun ls hl => ?_)
  refine lv_aload_n hx hb dL_law_374 rfl (lv_at hl 4 rfl) ?_
  refine callVg_I (As := []) ⟨by show _ ≤ 601024; omega, by show _ ≤ 7293034; omega⟩ k2 (by decide) rfl mlL_60 wiL_X9_thrown wsL_X9_thrown rfl wnL_X9 wcL_X9_thrown hdL_X9_thrown hC hG.1 hM (cX9_thrown_ok (thrown_ok k2 ht)) ⟨by decide, by decide⟩ hl.1 (Nat.le_of_ble_eq_true rfl) dL_law_375 rfl (fun H locs hM => ?_)
  refine lv_iload hx hb dL_law_378 (lv_at hl 1 rfl) ?_
  refine lv_icmp_eq (tgt := 385) hx hb dL_law_380 (by decide) (fun _ => ?_) (fun c0 => absurd rfl c0)
  refine lv_iload hx hb dL_law_385 (lv_at hl 1 rfl) ?_
  refine lv_if_ne (tgt := 402) hx hb dL_law_387 (by decide) (fun c_k => ?_) (fun c_k => ?_)
  · skip
    refine lv_goto (tgt := 1025) hx hb dL_law_402 (by decide) ?_
    exact hnext _ _ _ _ _ _ _ (Nat.le_refl _) (Nat.le_refl _) hRel2 hM (lv_sub hl [2, 3, 4, 5, 6] rfl)
  · skip
    refine lv_aload_n hx hb dL_law_390 rfl (lv_at hl 5 rfl) ?_
    refine lv_iconst (v := 0) hx hb dL_law_391 (by decide) ?_
    refine g_lald (v := some 330) hx hb hG.1 hM (aJ_out ko2 lo2 (hv c_k)) dL_law_392 ?_
    refine lv_iload hx hb dL_law_393 (lv_at hl 0 rfl) ?_
    refine lv_i2l hx hb dL_law_395 rfl ?_
    refine lc_eq (tgt := 402) hx hb dL_law_396 dL_law_397 (by decide) (fun _ => ?_) (fun c0 => absurd rfl c0)
    refine lv_goto (tgt := 1025) hx hb dL_law_402 (by decide) ?_
    exact hnext _ _ _ _ _ _ _ (Nat.le_refl _) (Nat.le_refl _) hRel2 hM (lv_sub hl [2, 3, 4, 5, 6] rfl)
theorem mlL_71 : Cond.methodLink RL 71 yX8_uses ∈ WALL := WALL_of (List.mem_of_getElem? (i := 499) (by decide +kernel)) (by decide +kernel)
theorem hdL_X8_uses : yX8_uses.cls ≠ "java/lang/invoke/MethodHandle" ∧ yX8_uses.cls ≠ "java/lang/invoke/VarHandle" ∧ (parseMethodDescriptor yX8_uses.desc).map (fun d => d.parameters.length) = some 3 := by decide +kernel
theorem wcL_X8_uses : Cond.code yX8_uses cX8_uses 5 (some .int) ∈ WALL := WALL_of (List.mem_of_getElem? (i := 502) (by decide +kernel)) (by decide +kernel)
theorem wiL_X8_uses : Cond.instanceMethod yX8_uses ∈ WALL := WALL_of (List.mem_of_getElem? (i := 500) (by decide +kernel)) (by decide +kernel)
theorem wsL_X8_uses : Cond.selects RX8 yX8_uses yX8_uses ∈ WALL := WALL_of (List.mem_of_getElem? (i := 501) (by decide +kernel)) (by decide +kernel)
theorem mlL_75 : Cond.methodLink RL 75 yX9_uses ∈ WALL := WALL_of (List.mem_of_getElem? (i := 1024) (by decide +kernel)) (by decide +kernel)
theorem hdL_X9_uses : yX9_uses.cls ≠ "java/lang/invoke/MethodHandle" ∧ yX9_uses.cls ≠ "java/lang/invoke/VarHandle" ∧ (parseMethodDescriptor yX9_uses.desc).map (fun d => d.parameters.length) = some 3 := by decide +kernel
theorem wcL_X9_uses : Cond.code yX9_uses cX9_uses 6 (some .int) ∈ WALL := WALL_of (List.mem_of_getElem? (i := 1027) (by decide +kernel)) (by decide +kernel)
theorem wiL_X9_uses : Cond.instanceMethod yX9_uses ∈ WALL := WALL_of (List.mem_of_getElem? (i := 1025) (by decide +kernel)) (by decide +kernel)
theorem wsL_X9_uses : Cond.selects RX9 yX9_uses yX9_uses ∈ WALL := WALL_of (List.mem_of_getElem? (i := 1026) (by decide +kernel)) (by decide +kernel)
set_option maxRecDepth 20000 in
theorem law_c7 {p : Program} {l : Launch} {e : Env} {s : State} {m : MethodId} {below : List Frame} {meth : Method} {c : Code} {D : va_G} {cy : Nat → ClassId} {b L : Nat} {xs : Nat → Int32} {Rel : Mem → Prop} {ad : Nat → Nat} (C0 : lw_At p s m meth c b L xs) (hls : l.stackTraces = false) (hG : GX D cy (fun q : Nat => s.heap.size ≤ q) s) (hO : OPS Rel) {x4 : Int32} (hi1 : vp_in (x4 + 1) L) (hi2 : vp_in (x4 + 2) L) (hi3 : vp_in (x4 + 3) L) (hi4 : vp_in (x4 + 4) L) (hi5 : vp_in (x4 + 5) L) {z cells slots : Nat} {σ : Mem} {H : Heap} {locs : List Loc} {ls : Array Slot} (hcs : cells + 1 ≤ 601024 ∧ slots + 6 ≤ 7293034) (hRel : Rel σ) (hM : MS D cy ad (fun q : Nat => s.heap.size ≤ q) s.heap z σ H locs) (hl : lv_has ls 8 [(0, .ref b), (1, .ref (ad 0)), (2, .ref (ad 304)), (3, .ref (ad 330)), (4, .int x4)]) (hnext : ∀ (z cells' slots' : Nat) (τ : Mem) (H : Heap) (locs : List Loc) (ls : Array Slot), cells' ≤ cells + 1 → slots' ≤ slots + 6 → Rel τ → MS D cy ad (fun q : Nat => s.heap.size ≤ q) s.heap z τ H locs → lv_has ls 8 [(0, .ref b), (1, .ref (ad 0)), (2, .ref (ad 304)), (3, .ref (ad 330)), (4, .int x4)] → W p l e room_1 s m #[Value.ref b] below meth c H locs cells' slots' (lw_Z below #[Value.ref b] s) (F0 m 1025 ls [])) : W p l e room_1 s m #[Value.ref b] below meth c H locs cells slots (lw_Z below #[Value.ref b] s) (F0 m 405 ls []) := by
  obtain ⟨hx, hb, hr, hml, hown, hts, hX, hbl, hlocks, hgv⟩ := id C0
  have hbA : ¬ (fun q : Nat => s.heap.size ≤ q) b := Nat.not_le.mpr hbl
  have hC : CallFix p m c cL_law 8 s #[Value.ref b] WALL RL := ⟨hx, hb, hml, hown, fun w hw => hts w (List.mem_filter.mp hw).1⟩
  have hRel0 := hRel
  obtain ⟨r, σ1, σ2, e1, k1, e2, hRel2⟩ := (hO.2.2.2.2.2.2.2.2.1 (xs (x4 + 1).toNatClampNeg) (xs (x4 + 2).toNatClampNeg) (xs (x4 + 3).toNatClampNeg)) σ hRel
  refine lv_aload_n hx hb dL_law_405 rfl (lv_at hl 1 rfl) ?_
  refine lv_aload_n hx hb dL_law_406 rfl (lv_at hl 0 rfl) ?_
  refine lv_iload hx hb dL_law_407 (lv_at hl 4 rfl) ?_
  refine lv_iconst (v := 1) hx hb dL_law_409 (by decide) ?_
  refine lv_iadd hx hb dL_law_410 ?_
  refine va_sld hx hb hX hbl hbA hM.2.2.1 hi1 dL_law_411 ?_
  refine lv_aload_n hx hb dL_law_412 rfl (lv_at hl 0 rfl) ?_
  refine lv_iload hx hb dL_law_413 (lv_at hl 4 rfl) ?_
  refine lv_iconst (v := 2) hx hb dL_law_415 (by decide) ?_
  refine lv_iadd hx hb dL_law_416 ?_
  refine va_sld hx hb hX hbl hbA hM.2.2.1 hi2 dL_law_417 ?_
  refine lv_aload_n hx hb dL_law_418 rfl (lv_at hl 0 rfl) ?_
  refine lv_iload hx hb dL_law_419 (lv_at hl 4 rfl) ?_
  refine lv_iconst (v := 3) hx hb dL_law_421 (by decide) ?_
  refine lv_iadd hx hb dL_law_422 ?_
  refine va_sld hx hb hX hbl hbA hM.2.2.1 hi3 dL_law_423 ?_
  refine callVg_I (As := [.int (xs (x4 + 1).toNatClampNeg), .int (xs (x4 + 2).toNatClampNeg), .int (xs (x4 + 3).toNatClampNeg)]) ⟨by show _ ≤ 601024; omega, by show _ ≤ 7293034; omega⟩ (hO.1 _ hRel) (by decide) rfl mlL_71 wiL_X8_uses wsL_X8_uses rfl wnL_X8 wcL_X8_uses hdL_X8_uses hC hG.1 hM (cX8_uses_ok e1) ⟨by decide, by decide⟩ hl.1 (Nat.le_of_ble_eq_true rfl) dL_law_424 rfl (fun H locs hM => ?_)
  refine lv_aload_n hx hb dL_law_427 rfl (lv_at hl 2 rfl) ?_
  refine lv_aload_n hx hb dL_law_428 rfl (lv_at hl 0 rfl) ?_
  refine lv_iload hx hb dL_law_429 (lv_at hl 4 rfl) ?_
  refine lv_iconst (v := 1) hx hb dL_law_431 (by decide) ?_
  refine lv_iadd hx hb dL_law_432 ?_
  refine va_sld hx hb hX hbl hbA hM.2.2.1 hi1 dL_law_433 ?_
  refine lv_aload_n hx hb dL_law_434 rfl (lv_at hl 0 rfl) ?_
  refine lv_iload hx hb dL_law_435 (lv_at hl 4 rfl) ?_
  refine lv_iconst (v := 2) hx hb dL_law_437 (by decide) ?_
  refine lv_iadd hx hb dL_law_438 ?_
  refine va_sld hx hb hX hbl hbA hM.2.2.1 hi2 dL_law_439 ?_
  refine lv_aload_n hx hb dL_law_440 rfl (lv_at hl 0 rfl) ?_
  refine lv_iload hx hb dL_law_441 (lv_at hl 4 rfl) ?_
  refine lv_iconst (v := 3) hx hb dL_law_443 (by decide) ?_
  refine lv_iadd hx hb dL_law_444 ?_
  refine va_sld hx hb hX hbl hbA hM.2.2.1 hi3 dL_law_445 ?_
  refine callVg_I (As := [.int (xs (x4 + 1).toNatClampNeg), .int (xs (x4 + 2).toNatClampNeg), .int (xs (x4 + 3).toNatClampNeg)]) ⟨by show _ ≤ 601024; omega, by show _ ≤ 7293034; omega⟩ k1 (by decide) rfl mlL_75 wiL_X9_uses wsL_X9_uses rfl wnL_X9 wcL_X9_uses hdL_X9_uses hC hG.1 hM (cX9_uses_ok e2) ⟨by decide, by decide⟩ hl.1 (Nat.le_of_ble_eq_true rfl) dL_law_446 rfl (fun H locs hM => ?_)
  refine lv_icmp_eq (tgt := 1025) hx hb dL_law_449 (by decide) (fun _ => ?_) (fun c0 => absurd rfl c0)
  exact hnext _ _ _ _ _ _ _ (Nat.le_succ _) (Nat.le_add_right _ 6) hRel2 hM (lv_sub hl [0, 1, 2, 3, 4] rfl)
theorem mlL_76 : Cond.methodLink RL 76 yX8_use ∈ WALL := WALL_of (List.mem_of_getElem? (i := 515) (by decide +kernel)) (by decide +kernel)
theorem hdL_X8_use : yX8_use.cls ≠ "java/lang/invoke/MethodHandle" ∧ yX8_use.cls ≠ "java/lang/invoke/VarHandle" ∧ (parseMethodDescriptor yX8_use.desc).map (fun d => d.parameters.length) = some 3 := by decide +kernel
theorem wcL_X8_use : Cond.code yX8_use cX8_use 4 (some .int) ∈ WALL := WALL_of (List.mem_of_getElem? (i := 518) (by decide +kernel)) (by decide +kernel)
theorem wiL_X8_use : Cond.instanceMethod yX8_use ∈ WALL := WALL_of (List.mem_of_getElem? (i := 516) (by decide +kernel)) (by decide +kernel)
theorem wsL_X8_use : Cond.selects RX8 yX8_use yX8_use ∈ WALL := WALL_of (List.mem_of_getElem? (i := 517) (by decide +kernel)) (by decide +kernel)
theorem mlL_79 : Cond.methodLink RL 79 yX9_use ∈ WALL := WALL_of (List.mem_of_getElem? (i := 1034) (by decide +kernel)) (by decide +kernel)
theorem hdL_X9_use : yX9_use.cls ≠ "java/lang/invoke/MethodHandle" ∧ yX9_use.cls ≠ "java/lang/invoke/VarHandle" ∧ (parseMethodDescriptor yX9_use.desc).map (fun d => d.parameters.length) = some 3 := by decide +kernel
theorem wcL_X9_use : Cond.code yX9_use cX9_use 4 (some .int) ∈ WALL := WALL_of (List.mem_of_getElem? (i := 1037) (by decide +kernel)) (by decide +kernel)
theorem wiL_X9_use : Cond.instanceMethod yX9_use ∈ WALL := WALL_of (List.mem_of_getElem? (i := 1035) (by decide +kernel)) (by decide +kernel)
theorem wsL_X9_use : Cond.selects RX9 yX9_use yX9_use ∈ WALL := WALL_of (List.mem_of_getElem? (i := 1036) (by decide +kernel)) (by decide +kernel)
set_option maxRecDepth 20000 in
theorem law_c8 {p : Program} {l : Launch} {e : Env} {s : State} {m : MethodId} {below : List Frame} {meth : Method} {c : Code} {D : va_G} {cy : Nat → ClassId} {b L : Nat} {xs : Nat → Int32} {Rel : Mem → Prop} {ad : Nat → Nat} (C0 : lw_At p s m meth c b L xs) (hls : l.stackTraces = false) (hG : GX D cy (fun q : Nat => s.heap.size ≤ q) s) (hO : OPS Rel) {x4 : Int32} (hi1 : vp_in (x4 + 1) L) (hi2 : vp_in (x4 + 2) L) (hi3 : vp_in (x4 + 3) L) (hi4 : vp_in (x4 + 4) L) (hi5 : vp_in (x4 + 5) L) {z cells slots : Nat} {σ : Mem} {H : Heap} {locs : List Loc} {ls : Array Slot} (hcs : cells + 1 ≤ 601024 ∧ slots + 6 ≤ 7293034) (hRel : Rel σ) (hM : MS D cy ad (fun q : Nat => s.heap.size ≤ q) s.heap z σ H locs) (hl : lv_has ls 8 [(0, .ref b), (1, .ref (ad 0)), (2, .ref (ad 304)), (3, .ref (ad 330)), (4, .int x4)]) (hnext : ∀ (z cells' slots' : Nat) (τ : Mem) (H : Heap) (locs : List Loc) (ls : Array Slot), cells' ≤ cells + 1 → slots' ≤ slots + 6 → Rel τ → MS D cy ad (fun q : Nat => s.heap.size ≤ q) s.heap z τ H locs → lv_has ls 8 [(0, .ref b), (1, .ref (ad 0)), (2, .ref (ad 304)), (3, .ref (ad 330)), (4, .int x4)] → W p l e room_1 s m #[Value.ref b] below meth c H locs cells' slots' (lw_Z below #[Value.ref b] s) (F0 m 1025 ls [])) : W p l e room_1 s m #[Value.ref b] below meth c H locs cells slots (lw_Z below #[Value.ref b] s) (F0 m 454 ls []) := by
  obtain ⟨hx, hb, hr, hml, hown, hts, hX, hbl, hlocks, hgv⟩ := id C0
  have hbA : ¬ (fun q : Nat => s.heap.size ≤ q) b := Nat.not_le.mpr hbl
  have hC : CallFix p m c cL_law 8 s #[Value.ref b] WALL RL := ⟨hx, hb, hml, hown, fun w hw => hts w (List.mem_filter.mp hw).1⟩
  have hRel0 := hRel
  obtain ⟨r, σ1, σ2, e1, k1, e2, hRel2⟩ := (hO.2.2.2.2.2.2.2.2.2.1 (xs (x4 + 1).toNatClampNeg) (xs (x4 + 2).toNatClampNeg) (xs (x4 + 3).toNatClampNeg)) σ hRel
  refine lv_aload_n hx hb dL_law_454 rfl (lv_at hl 1 rfl) ?_
  refine lv_aload_n hx hb dL_law_455 rfl (lv_at hl 0 rfl) ?_
  refine lv_iload hx hb dL_law_456 (lv_at hl 4 rfl) ?_
  refine lv_iconst (v := 1) hx hb dL_law_458 (by decide) ?_
  refine lv_iadd hx hb dL_law_459 ?_
  refine va_sld hx hb hX hbl hbA hM.2.2.1 hi1 dL_law_460 ?_
  refine lv_aload_n hx hb dL_law_461 rfl (lv_at hl 0 rfl) ?_
  refine lv_iload hx hb dL_law_462 (lv_at hl 4 rfl) ?_
  refine lv_iconst (v := 2) hx hb dL_law_464 (by decide) ?_
  refine lv_iadd hx hb dL_law_465 ?_
  refine va_sld hx hb hX hbl hbA hM.2.2.1 hi2 dL_law_466 ?_
  refine lv_aload_n hx hb dL_law_467 rfl (lv_at hl 0 rfl) ?_
  refine lv_iload hx hb dL_law_468 (lv_at hl 4 rfl) ?_
  refine lv_iconst (v := 3) hx hb dL_law_470 (by decide) ?_
  refine lv_iadd hx hb dL_law_471 ?_
  refine va_sld hx hb hX hbl hbA hM.2.2.1 hi3 dL_law_472 ?_
  refine callVg_I (As := [.int (xs (x4 + 1).toNatClampNeg), .int (xs (x4 + 2).toNatClampNeg), .int (xs (x4 + 3).toNatClampNeg)]) ⟨by show _ ≤ 601024; omega, by show _ ≤ 7293034; omega⟩ (hO.1 _ hRel) (by decide) rfl mlL_76 wiL_X8_use wsL_X8_use rfl wnL_X8 wcL_X8_use hdL_X8_use hC hG.1 hM (cX8_use_ok e1) ⟨by decide, by decide⟩ hl.1 (Nat.le_of_ble_eq_true rfl) dL_law_473 rfl (fun H locs hM => ?_)
  refine lv_aload_n hx hb dL_law_476 rfl (lv_at hl 2 rfl) ?_
  refine lv_aload_n hx hb dL_law_477 rfl (lv_at hl 0 rfl) ?_
  refine lv_iload hx hb dL_law_478 (lv_at hl 4 rfl) ?_
  refine lv_iconst (v := 1) hx hb dL_law_480 (by decide) ?_
  refine lv_iadd hx hb dL_law_481 ?_
  refine va_sld hx hb hX hbl hbA hM.2.2.1 hi1 dL_law_482 ?_
  refine lv_aload_n hx hb dL_law_483 rfl (lv_at hl 0 rfl) ?_
  refine lv_iload hx hb dL_law_484 (lv_at hl 4 rfl) ?_
  refine lv_iconst (v := 2) hx hb dL_law_486 (by decide) ?_
  refine lv_iadd hx hb dL_law_487 ?_
  refine va_sld hx hb hX hbl hbA hM.2.2.1 hi2 dL_law_488 ?_
  refine lv_aload_n hx hb dL_law_489 rfl (lv_at hl 0 rfl) ?_
  refine lv_iload hx hb dL_law_490 (lv_at hl 4 rfl) ?_
  refine lv_iconst (v := 3) hx hb dL_law_492 (by decide) ?_
  refine lv_iadd hx hb dL_law_493 ?_
  refine va_sld hx hb hX hbl hbA hM.2.2.1 hi3 dL_law_494 ?_
  refine callVg_I (As := [.int (xs (x4 + 1).toNatClampNeg), .int (xs (x4 + 2).toNatClampNeg), .int (xs (x4 + 3).toNatClampNeg)]) ⟨by show _ ≤ 601024; omega, by show _ ≤ 7293034; omega⟩ k1 (by decide) rfl mlL_79 wiL_X9_use wsL_X9_use rfl wnL_X9 wcL_X9_use hdL_X9_use hC hG.1 hM (cX9_use_ok e2) ⟨by decide, by decide⟩ hl.1 (Nat.le_of_ble_eq_true rfl) dL_law_495 rfl (fun H locs hM => ?_)
  refine lv_icmp_eq (tgt := 1025) hx hb dL_law_498 (by decide) (fun _ => ?_) (fun c0 => absurd rfl c0)
  exact hnext _ _ _ _ _ _ _ (Nat.le_succ _) (Nat.le_add_right _ 6) hRel2 hM (lv_sub hl [0, 1, 2, 3, 4] rfl)
theorem mlL_80 : Cond.methodLink RL 80 yX8_change ∈ WALL := WALL_of (List.mem_of_getElem? (i := 523) (by decide +kernel)) (by decide +kernel)
theorem hdL_X8_change : yX8_change.cls ≠ "java/lang/invoke/MethodHandle" ∧ yX8_change.cls ≠ "java/lang/invoke/VarHandle" ∧ (parseMethodDescriptor yX8_change.desc).map (fun d => d.parameters.length) = some 1 := by decide +kernel
theorem wcL_X8_change : Cond.code yX8_change cX8_change 2 (some .boolean) ∈ WALL := WALL_of (List.mem_of_getElem? (i := 526) (by decide +kernel)) (by decide +kernel)
theorem wiL_X8_change : Cond.instanceMethod yX8_change ∈ WALL := WALL_of (List.mem_of_getElem? (i := 524) (by decide +kernel)) (by decide +kernel)
theorem wsL_X8_change : Cond.selects RX8 yX8_change yX8_change ∈ WALL := WALL_of (List.mem_of_getElem? (i := 525) (by decide +kernel)) (by decide +kernel)
theorem mlL_83 : Cond.methodLink RL 83 yX9_change ∈ WALL := WALL_of (List.mem_of_getElem? (i := 1038) (by decide +kernel)) (by decide +kernel)
theorem hdL_X9_change : yX9_change.cls ≠ "java/lang/invoke/MethodHandle" ∧ yX9_change.cls ≠ "java/lang/invoke/VarHandle" ∧ (parseMethodDescriptor yX9_change.desc).map (fun d => d.parameters.length) = some 1 := by decide +kernel
theorem wcL_X9_change : Cond.code yX9_change cX9_change 2 (some .boolean) ∈ WALL := WALL_of (List.mem_of_getElem? (i := 1041) (by decide +kernel)) (by decide +kernel)
theorem wiL_X9_change : Cond.instanceMethod yX9_change ∈ WALL := WALL_of (List.mem_of_getElem? (i := 1039) (by decide +kernel)) (by decide +kernel)
theorem wsL_X9_change : Cond.selects RX9 yX9_change yX9_change ∈ WALL := WALL_of (List.mem_of_getElem? (i := 1040) (by decide +kernel)) (by decide +kernel)
set_option maxRecDepth 20000 in
theorem law_c9 {p : Program} {l : Launch} {e : Env} {s : State} {m : MethodId} {below : List Frame} {meth : Method} {c : Code} {D : va_G} {cy : Nat → ClassId} {b L : Nat} {xs : Nat → Int32} {Rel : Mem → Prop} {ad : Nat → Nat} (C0 : lw_At p s m meth c b L xs) (hls : l.stackTraces = false) (hG : GX D cy (fun q : Nat => s.heap.size ≤ q) s) (hO : OPS Rel) {x4 : Int32} (hi1 : vp_in (x4 + 1) L) (hi2 : vp_in (x4 + 2) L) (hi3 : vp_in (x4 + 3) L) (hi4 : vp_in (x4 + 4) L) (hi5 : vp_in (x4 + 5) L) {z cells slots : Nat} {σ : Mem} {H : Heap} {locs : List Loc} {ls : Array Slot} (hcs : cells + 1 ≤ 601024 ∧ slots + 6 ≤ 7293034) (hRel : Rel σ) (hM : MS D cy ad (fun q : Nat => s.heap.size ≤ q) s.heap z σ H locs) (hl : lv_has ls 8 [(0, .ref b), (1, .ref (ad 0)), (2, .ref (ad 304)), (3, .ref (ad 330)), (4, .int x4)]) (hnext : ∀ (z cells' slots' : Nat) (τ : Mem) (H : Heap) (locs : List Loc) (ls : Array Slot), cells' ≤ cells + 1 → slots' ≤ slots + 6 → Rel τ → MS D cy ad (fun q : Nat => s.heap.size ≤ q) s.heap z τ H locs → lv_has ls 8 [(0, .ref b), (1, .ref (ad 0)), (2, .ref (ad 304)), (3, .ref (ad 330)), (4, .int x4)] → W p l e room_1 s m #[Value.ref b] below meth c H locs cells' slots' (lw_Z below #[Value.ref b] s) (F0 m 1025 ls [])) : W p l e room_1 s m #[Value.ref b] below meth c H locs cells slots (lw_Z below #[Value.ref b] s) (F0 m 503 ls []) := by
  obtain ⟨hx, hb, hr, hml, hown, hts, hX, hbl, hlocks, hgv⟩ := id C0
  have hbA : ¬ (fun q : Nat => s.heap.size ≤ q) b := Nat.not_le.mpr hbl
  have hC : CallFix p m c cL_law 8 s #[Value.ref b] WALL RL := ⟨hx, hb, hml, hown, fun w hw => hts w (List.mem_filter.mp hw).1⟩
  have hRel0 := hRel
  obtain ⟨r, σ1, σ2, e1, k1, e2, hRel2⟩ := (hO.2.2.2.2.2.2.2.2.2.2.1 (xs (x4 + 1).toNatClampNeg)) σ hRel
  refine lv_aload_n hx hb dL_law_503 rfl (lv_at hl 1 rfl) ?_
  refine lv_aload_n hx hb dL_law_504 rfl (lv_at hl 0 rfl) ?_
  refine lv_iload hx hb dL_law_505 (lv_at hl 4 rfl) ?_
  refine lv_iconst (v := 1) hx hb dL_law_507 (by decide) ?_
  refine lv_iadd hx hb dL_law_508 ?_
  refine va_sld hx hb hX hbl hbA hM.2.2.1 hi1 dL_law_509 ?_
  refine callVg_I (As := [.int (xs (x4 + 1).toNatClampNeg)]) ⟨by show _ ≤ 601024; omega, by show _ ≤ 7293034; omega⟩ (hO.1 _ hRel) (by decide) rfl mlL_80 wiL_X8_change wsL_X8_change rfl wnL_X8 wcL_X8_change hdL_X8_change hC hG.1 hM (cX8_change_ok e1) ⟨by decide, by decide⟩ hl.1 (Nat.le_of_ble_eq_true rfl) dL_law_510 rfl (fun H locs hM => ?_)
  refine lv_aload_n hx hb dL_law_513 rfl (lv_at hl 2 rfl) ?_
  refine lv_aload_n hx hb dL_law_514 rfl (lv_at hl 0 rfl) ?_
  refine lv_iload hx hb dL_law_515 (lv_at hl 4 rfl) ?_
  refine lv_iconst (v := 1) hx hb dL_law_517 (by decide) ?_
  refine lv_iadd hx hb dL_law_518 ?_
  refine va_sld hx hb hX hbl hbA hM.2.2.1 hi1 dL_law_519 ?_
  refine callVg_I (As := [.int (xs (x4 + 1).toNatClampNeg)]) ⟨by show _ ≤ 601024; omega, by show _ ≤ 7293034; omega⟩ k1 (by decide) rfl mlL_83 wiL_X9_change wsL_X9_change rfl wnL_X9 wcL_X9_change hdL_X9_change hC hG.1 hM (cX9_change_ok e2) ⟨by decide, by decide⟩ hl.1 (Nat.le_of_ble_eq_true rfl) dL_law_520 rfl (fun H locs hM => ?_)
  refine lv_icmp_eq (tgt := 1025) hx hb dL_law_523 (by decide) (fun _ => ?_) (fun c0 => absurd rfl c0)
  exact hnext _ _ _ _ _ _ _ (Nat.le_succ _) (Nat.le_add_right _ 6) hRel2 hM (lv_sub hl [0, 1, 2, 3, 4] rfl)
theorem mlL_84 : Cond.methodLink RL 84 yL_cost ∈ WALL := WALL_of (List.mem_of_getElem? (i := 727) (by decide +kernel)) (by decide +kernel)
theorem hdL_L_cost : yL_cost.cls ≠ "java/lang/invoke/MethodHandle" ∧ yL_cost.cls ≠ "java/lang/invoke/VarHandle" ∧ (parseMethodDescriptor yL_cost.desc).map (fun d => d.parameters.length) = some 6 := by decide +kernel
theorem wcL_L_cost : Cond.codeWith yL_cost cL_cost 7 (some .int) [(0, 13, 16, 13)] ∈ WALL := WALL_of (by decide +kernel) (by decide +kernel)
theorem wtL_L_cost : Cond.static yL_cost ∈ WALL := WALL_of (List.mem_of_getElem? (i := 728) (by decide +kernel)) (by decide +kernel)
theorem mlL_87 : Cond.methodLink RL 87 yX9_cost ∈ WALL := WALL_of (List.mem_of_getElem? (i := 1043) (by decide +kernel)) (by decide +kernel)
theorem hdL_X9_cost : yX9_cost.cls ≠ "java/lang/invoke/MethodHandle" ∧ yX9_cost.cls ≠ "java/lang/invoke/VarHandle" ∧ (parseMethodDescriptor yX9_cost.desc).map (fun d => d.parameters.length) = some 4 := by decide +kernel
theorem wcL_X9_cost : Cond.code yX9_cost cX9_cost 5 (some .long) ∈ WALL := WALL_of (List.mem_of_getElem? (i := 1046) (by decide +kernel)) (by decide +kernel)
theorem wiL_X9_cost : Cond.instanceMethod yX9_cost ∈ WALL := WALL_of (List.mem_of_getElem? (i := 1044) (by decide +kernel)) (by decide +kernel)
theorem wsL_X9_cost : Cond.selects RX9 yX9_cost yX9_cost ∈ WALL := WALL_of (List.mem_of_getElem? (i := 1045) (by decide +kernel)) (by decide +kernel)
set_option maxRecDepth 20000 in
theorem law_c10 {p : Program} {l : Launch} {e : Env} {s : State} {m : MethodId} {below : List Frame} {meth : Method} {c : Code} {D : va_G} {cy : Nat → ClassId} {b L : Nat} {xs : Nat → Int32} {Rel : Mem → Prop} {ad : Nat → Nat} (C0 : lw_At p s m meth c b L xs) (hls : l.stackTraces = false) (hG : GX D cy (fun q : Nat => s.heap.size ≤ q) s) (hO : OPS Rel) {x4 : Int32} (hi1 : vp_in (x4 + 1) L) (hi2 : vp_in (x4 + 2) L) (hi3 : vp_in (x4 + 3) L) (hi4 : vp_in (x4 + 4) L) (hi5 : vp_in (x4 + 5) L) {z cells slots : Nat} {σ : Mem} {H : Heap} {locs : List Loc} {ls : Array Slot} (hcs : cells + 1 ≤ 601024 ∧ slots + 6 ≤ 7293034) (hRel : Rel σ) (hM : MS D cy ad (fun q : Nat => s.heap.size ≤ q) s.heap z σ H locs) (hl : lv_has ls 8 [(0, .ref b), (1, .ref (ad 0)), (2, .ref (ad 304)), (3, .ref (ad 330)), (4, .int x4)]) (hnext : ∀ (z cells' slots' : Nat) (τ : Mem) (H : Heap) (locs : List Loc) (ls : Array Slot), cells' ≤ cells + 1 → slots' ≤ slots + 6 → Rel τ → MS D cy ad (fun q : Nat => s.heap.size ≤ q) s.heap z τ H locs → lv_has ls 8 [(0, .ref b), (1, .ref (ad 0)), (2, .ref (ad 304)), (3, .ref (ad 330)), (4, .int x4)] → W p l e room_1 s m #[Value.ref b] below meth c H locs cells' slots' (lw_Z below #[Value.ref b] s) (F0 m 1025 ls [])) : W p l e room_1 s m #[Value.ref b] below meth c H locs cells slots (lw_Z below #[Value.ref b] s) (F0 m 528 ls []) := by
  obtain ⟨hx, hb, hr, hml, hown, hts, hX, hbl, hlocks, hgv⟩ := id C0
  have hbA : ¬ (fun q : Nat => s.heap.size ≤ q) b := Nat.not_le.mpr hbl
  have hC : CallFix p m c cL_law 8 s #[Value.ref b] WALL RL := ⟨hx, hb, hml, hown, fun w hw => hts w (List.mem_filter.mp hw).1⟩
  have hRel0 := hRel
  obtain ⟨r, σ1, b0, σ2, e1, ko1, lo1, k1, e2, k2, ht, ko2, lo2, hv, hRel2⟩ := (hO.2.2.2.2.2.2.2.2.2.2.2.1 (xs (x4 + 1).toNatClampNeg) (xs (x4 + 2).toNatClampNeg) (xs (x4 + 3).toNatClampNeg) (xs (x4 + 4).toNatClampNeg)) σ hRel
  refine lv_aload_n hx hb dL_law_528 rfl (lv_at hl 1 rfl) ?_
  refine lv_aload_n hx hb dL_law_529 rfl (lv_at hl 0 rfl) ?_
  refine lv_iload hx hb dL_law_530 (lv_at hl 4 rfl) ?_
  refine lv_iconst (v := 1) hx hb dL_law_532 (by decide) ?_
  refine lv_iadd hx hb dL_law_533 ?_
  refine va_sld hx hb hX hbl hbA hM.2.2.1 hi1 dL_law_534 ?_
  refine lv_aload_n hx hb dL_law_535 rfl (lv_at hl 0 rfl) ?_
  refine lv_iload hx hb dL_law_536 (lv_at hl 4 rfl) ?_
  refine lv_iconst (v := 2) hx hb dL_law_538 (by decide) ?_
  refine lv_iadd hx hb dL_law_539 ?_
  refine va_sld hx hb hX hbl hbA hM.2.2.1 hi2 dL_law_540 ?_
  refine lv_aload_n hx hb dL_law_541 rfl (lv_at hl 0 rfl) ?_
  refine lv_iload hx hb dL_law_542 (lv_at hl 4 rfl) ?_
  refine lv_iconst (v := 3) hx hb dL_law_544 (by decide) ?_
  refine lv_iadd hx hb dL_law_545 ?_
  refine va_sld hx hb hX hbl hbA hM.2.2.1 hi3 dL_law_546 ?_
  refine lv_aload_n hx hb dL_law_547 rfl (lv_at hl 0 rfl) ?_
  refine lv_iload hx hb dL_law_548 (lv_at hl 4 rfl) ?_
  refine lv_iconst (v := 4) hx hb dL_law_550 (by decide) ?_
  refine lv_iadd hx hb dL_law_551 ?_
  refine va_sld hx hb hX hbl hbA hM.2.2.1 hi4 dL_law_552 ?_
  refine lv_aload_n hx hb dL_law_553 rfl (lv_at hl 3 rfl) ?_
  refine callH (As := [.ref (ad 0), .int (xs (x4 + 1).toNatClampNeg), .int (xs (x4 + 2).toNatClampNeg), .int (xs (x4 + 3).toNatClampNeg), .int (xs (x4 + 4).toNatClampNeg), .ref (ad 330)]) hcs mlL_84 wtL_L_cost wnL_L wcL_L_cost hdL_L_cost hC hG hM (cL_cost_ok hls (hO.1 _ hRel0) e1 ko1 lo1) ⟨by decide, by decide⟩ hl.1 (Nat.le_of_ble_eq_true rfl) dL_law_554 rfl (fun z H locs hM => ?_)
  refine lv_istore (lv' := [(5, .int (kof r)), (0, .ref b), (1, .ref (ad 0)), (2, .ref (ad 304)), (3, .ref (ad 330)), (4, .int x4)]) hx hb dL_law_557 hl (by decide) rfl (fun ls hl => ?_)
  refine lv_aload_n hx hb dL_law_559 rfl (lv_at hl 3 rfl) ?_
  refine lv_aload_n hx hb dL_law_560 rfl (lv_at hl 1 rfl) ?_
  refine lv_iload hx hb dL_law_561 (lv_at hl 5 rfl) ?_
  refine lv_iconst (v := 1) hx hb dL_law_563 (by decide) ?_
  refine lv_iadd hx hb dL_law_564 ?_
  refine va_sld hx hb hX hbl hbA hM.2.2.1 hi1 dL_law_565 ?_
  refine lv_aload_n hx hb dL_law_566 rfl (lv_at hl 1 rfl) ?_
  refine lv_iload hx hb dL_law_567 (lv_at hl 5 rfl) ?_
  refine lv_iconst (v := 2) hx hb dL_law_569 (by decide) ?_
  refine lv_iadd hx hb dL_law_570 ?_
  refine va_sld hx hb hX hbl hbA hM.2.2.1 hi2 dL_law_571 ?_
  refine lv_aload_n hx hb dL_law_572 rfl (lv_at hl 1 rfl) ?_
  refine lv_iload hx hb dL_law_573 (lv_at hl 5 rfl) ?_
  refine lv_iconst (v := 3) hx hb dL_law_575 (by decide) ?_
  refine lv_iadd hx hb dL_law_576 ?_
  refine va_sld hx hb hX hbl hbA hM.2.2.1 hi3 dL_law_577 ?_
  refine lv_aload_n hx hb dL_law_578 rfl (lv_at hl 1 rfl) ?_
  refine lv_iload hx hb dL_law_579 (lv_at hl 5 rfl) ?_
  refine lv_iconst (v := 4) hx hb dL_law_581 (by decide) ?_
  refine lv_iadd hx hb dL_law_582 ?_
  refine va_sld hx hb hX hbl hbA hM.2.2.1 hi4 dL_law_583 ?_
  refine callVg_L (As := [.int (xs (x4 + 1).toNatClampNeg), .int (xs (x4 + 2).toNatClampNeg), .int (xs (x4 + 3).toNatClampNeg), .int (xs (x4 + 4).toNatClampNeg)]) ⟨by show _ ≤ 601024; omega, by show _ ≤ 7293034; omega⟩ k1 (by decide) rfl mlL_87 wiL_X9_cost wsL_X9_cost rfl wnL_X9 wcL_X9_cost hdL_X9_cost hC hG.1 hM (cX9_cost_ok e2) ⟨by decide, by decide⟩ hl.1 (Nat.le_of_ble_eq_true rfl) dL_law_584 rfl (fun H locs hM => ?_)
  refine lv_lstore (lv' := [(6, .long b0), (5, .int (kof r)), (0, .ref b), (1, .ref (ad 0)), (2, .ref (ad 304)), (3, .ref (ad 330)), (4, .int x4)]) hx hb dL_law_587 hl (by decide) rfl (fun ls hl => ?_)
  refine lv_aload_n hx hb dL_law_589 rfl (lv_at hl 4 rfl) ?_
  refine callVg_I (As := []) ⟨by show _ ≤ 601024; omega, by show _ ≤ 7293034; omega⟩ k2 (by decide) rfl mlL_60 wiL_X9_thrown wsL_X9_thrown rfl wnL_X9 wcL_X9_thrown hdL_X9_thrown hC hG.1 hM (cX9_thrown_ok (thrown_ok k2 ht)) ⟨by decide, by decide⟩ hl.1 (Nat.le_of_ble_eq_true rfl) dL_law_590 rfl (fun H locs hM => ?_)
  refine lv_iload hx hb dL_law_593 (lv_at hl 1 rfl) ?_
  refine lv_icmp_eq (tgt := 600) hx hb dL_law_595 (by decide) (fun _ => ?_) (fun c0 => absurd rfl c0)
  refine lv_iload hx hb dL_law_600 (lv_at hl 1 rfl) ?_
  refine lv_if_ne (tgt := 616) hx hb dL_law_602 (by decide) (fun c_k => ?_) (fun c_k => ?_)
  · skip
    refine lv_goto (tgt := 1025) hx hb dL_law_616 (by decide) ?_
    exact hnext _ _ _ _ _ _ _ (Nat.le_refl _) (Nat.le_refl _) hRel2 hM (lv_sub hl [2, 3, 4, 5, 6] rfl)
  · skip
    refine lv_aload_n hx hb dL_law_605 rfl (lv_at hl 5 rfl) ?_
    refine lv_iconst (v := 0) hx hb dL_law_606 (by decide) ?_
    refine g_lald (v := some 330) hx hb hG.1 hM (aJ_out ko2 lo2 (hv c_k)) dL_law_607 ?_
    refine lv_lload hx hb dL_law_608 (lv_at hl 0 rfl) ?_
    refine lc_eq (tgt := 616) hx hb dL_law_610 dL_law_611 (by decide) (fun _ => ?_) (fun c0 => absurd rfl c0)
    refine lv_goto (tgt := 1025) hx hb dL_law_616 (by decide) ?_
    exact hnext _ _ _ _ _ _ _ (Nat.le_refl _) (Nat.le_refl _) hRel2 hM (lv_sub hl [2, 3, 4, 5, 6] rfl)
theorem mlL_90 : Cond.methodLink RL 90 yL_bill ∈ WALL := WALL_of (List.mem_of_getElem? (i := 741) (by decide +kernel)) (by decide +kernel)
theorem hdL_L_bill : yL_bill.cls ≠ "java/lang/invoke/MethodHandle" ∧ yL_bill.cls ≠ "java/lang/invoke/VarHandle" ∧ (parseMethodDescriptor yL_bill.desc).map (fun d => d.parameters.length) = some 6 := by decide +kernel
theorem wcL_L_bill : Cond.codeWith yL_bill cL_bill 8 (some .int) [(0, 13, 16, 13)] ∈ WALL := WALL_of (by decide +kernel) (by decide +kernel)
theorem wtL_L_bill : Cond.static yL_bill ∈ WALL := WALL_of (List.mem_of_getElem? (i := 742) (by decide +kernel)) (by decide +kernel)
theorem mlL_93 : Cond.methodLink RL 93 yX9_bill ∈ WALL := WALL_of (List.mem_of_getElem? (i := 1067) (by decide +kernel)) (by decide +kernel)
theorem hdL_X9_bill : yX9_bill.cls ≠ "java/lang/invoke/MethodHandle" ∧ yX9_bill.cls ≠ "java/lang/invoke/VarHandle" ∧ (parseMethodDescriptor yX9_bill.desc).map (fun d => d.parameters.length) = some 4 := by decide +kernel
theorem wcL_X9_bill : Cond.code yX9_bill cX9_bill 6 (some .long) ∈ WALL := WALL_of (List.mem_of_getElem? (i := 1070) (by decide +kernel)) (by decide +kernel)
theorem wiL_X9_bill : Cond.instanceMethod yX9_bill ∈ WALL := WALL_of (List.mem_of_getElem? (i := 1068) (by decide +kernel)) (by decide +kernel)
theorem wsL_X9_bill : Cond.selects RX9 yX9_bill yX9_bill ∈ WALL := WALL_of (List.mem_of_getElem? (i := 1069) (by decide +kernel)) (by decide +kernel)
theorem wkL_88 : Cond.constantLong RL 88 (4294967295) ∈ WALL := WALL_of (List.mem_of_getElem? (i := 1124) (by decide +kernel)) (by decide +kernel)
set_option maxRecDepth 20000 in
theorem law_c11 {p : Program} {l : Launch} {e : Env} {s : State} {m : MethodId} {below : List Frame} {meth : Method} {c : Code} {D : va_G} {cy : Nat → ClassId} {b L : Nat} {xs : Nat → Int32} {Rel : Mem → Prop} {ad : Nat → Nat} (C0 : lw_At p s m meth c b L xs) (hls : l.stackTraces = false) (hG : GX D cy (fun q : Nat => s.heap.size ≤ q) s) (hO : OPS Rel) {x4 : Int32} (hi1 : vp_in (x4 + 1) L) (hi2 : vp_in (x4 + 2) L) (hi3 : vp_in (x4 + 3) L) (hi4 : vp_in (x4 + 4) L) (hi5 : vp_in (x4 + 5) L) {z cells slots : Nat} {σ : Mem} {H : Heap} {locs : List Loc} {ls : Array Slot} (hcs : cells + 1 ≤ 601024 ∧ slots + 6 ≤ 7293034) (hRel : Rel σ) (hM : MS D cy ad (fun q : Nat => s.heap.size ≤ q) s.heap z σ H locs) (hl : lv_has ls 8 [(0, .ref b), (1, .ref (ad 0)), (2, .ref (ad 304)), (3, .ref (ad 330)), (4, .int x4)]) (hnext : ∀ (z cells' slots' : Nat) (τ : Mem) (H : Heap) (locs : List Loc) (ls : Array Slot), cells' ≤ cells + 1 → slots' ≤ slots + 6 → Rel τ → MS D cy ad (fun q : Nat => s.heap.size ≤ q) s.heap z τ H locs → lv_has ls 8 [(0, .ref b), (1, .ref (ad 0)), (2, .ref (ad 304)), (3, .ref (ad 330)), (4, .int x4)] → W p l e room_1 s m #[Value.ref b] below meth c H locs cells' slots' (lw_Z below #[Value.ref b] s) (F0 m 1025 ls [])) : W p l e room_1 s m #[Value.ref b] below meth c H locs cells slots (lw_Z below #[Value.ref b] s) (F0 m 619 ls []) := by
  obtain ⟨hx, hb, hr, hml, hown, hts, hX, hbl, hlocks, hgv⟩ := id C0
  have hbA : ¬ (fun q : Nat => s.heap.size ≤ q) b := Nat.not_le.mpr hbl
  have hC : CallFix p m c cL_law 8 s #[Value.ref b] WALL RL := ⟨hx, hb, hml, hown, fun w hw => hts w (List.mem_filter.mp hw).1⟩
  have hRel0 := hRel
  obtain ⟨r, σ1, b0, σ2, e1, ko1, lo1, k1, e2, k2, ht, ko2, lo2, hv, hRel2⟩ := (hO.2.2.2.2.2.2.2.2.2.2.2.2.1 (xs (x4 + 1).toNatClampNeg) (xs (x4 + 2).toNatClampNeg) (xs (x4 + 3).toNatClampNeg) (((xs (x4 + 4).toNatClampNeg) : Int32).toInt64 <<< ((32 : Int32).toInt64 &&& 63) ||| ((xs (x4 + 5).toNatClampNeg) : Int32).toInt64 &&& 4294967295)) σ hRel
  refine lv_aload_n hx hb dL_law_619 rfl (lv_at hl 1 rfl) ?_
  refine lv_aload_n hx hb dL_law_620 rfl (lv_at hl 0 rfl) ?_
  refine lv_iload hx hb dL_law_621 (lv_at hl 4 rfl) ?_
  refine lv_iconst (v := 1) hx hb dL_law_623 (by decide) ?_
  refine lv_iadd hx hb dL_law_624 ?_
  refine va_sld hx hb hX hbl hbA hM.2.2.1 hi1 dL_law_625 ?_
  refine lv_aload_n hx hb dL_law_626 rfl (lv_at hl 0 rfl) ?_
  refine lv_iload hx hb dL_law_627 (lv_at hl 4 rfl) ?_
  refine lv_iconst (v := 2) hx hb dL_law_629 (by decide) ?_
  refine lv_iadd hx hb dL_law_630 ?_
  refine va_sld hx hb hX hbl hbA hM.2.2.1 hi2 dL_law_631 ?_
  refine lv_aload_n hx hb dL_law_632 rfl (lv_at hl 0 rfl) ?_
  refine lv_iload hx hb dL_law_633 (lv_at hl 4 rfl) ?_
  refine lv_iconst (v := 3) hx hb dL_law_635 (by decide) ?_
  refine lv_iadd hx hb dL_law_636 ?_
  refine va_sld hx hb hX hbl hbA hM.2.2.1 hi3 dL_law_637 ?_
  refine lv_aload_n hx hb dL_law_638 rfl (lv_at hl 0 rfl) ?_
  refine lv_iload hx hb dL_law_639 (lv_at hl 4 rfl) ?_
  refine lv_iconst (v := 4) hx hb dL_law_641 (by decide) ?_
  refine lv_iadd hx hb dL_law_642 ?_
  refine va_sld hx hb hX hbl hbA hM.2.2.1 hi4 dL_law_643 ?_
  refine lv_i2l hx hb dL_law_644 rfl ?_
  refine lv_bipush (v := 32) hx hb dL_law_645 (by decide) ?_
  refine lv_lshl hx hb dL_law_647 rfl ?_
  refine lv_aload_n hx hb dL_law_648 rfl (lv_at hl 0 rfl) ?_
  refine lv_iload hx hb dL_law_649 (lv_at hl 4 rfl) ?_
  refine lv_iconst (v := 5) hx hb dL_law_651 (by decide) ?_
  refine lv_iadd hx hb dL_law_652 ?_
  refine va_sld hx hb hX hbl hbA hM.2.2.1 hi5 dL_law_653 ?_
  refine lv_i2l hx hb dL_law_654 rfl ?_
  refine lv_ldc2 (v := 4294967295) hx hb hC.2.2.2.1 (hC.2.2.2.2 _ wkL_88) dL_law_655 ?_
  refine lv_land hx hb dL_law_658 ?_
  refine lv_lor hx hb dL_law_659 ?_
  refine lv_aload_n hx hb dL_law_660 rfl (lv_at hl 3 rfl) ?_
  refine callH (As := [.ref (ad 0), .int (xs (x4 + 1).toNatClampNeg), .int (xs (x4 + 2).toNatClampNeg), .int (xs (x4 + 3).toNatClampNeg), .long (((((xs (x4 + 4).toNatClampNeg) : Int32).toInt64) <<< (((32) : Int32).toInt64 &&& 63)) ||| ((((xs (x4 + 5).toNatClampNeg) : Int32).toInt64) &&& 4294967295)), .ref (ad 330)]) hcs mlL_90 wtL_L_bill wnL_L wcL_L_bill hdL_L_bill hC hG hM (cL_bill_ok hls (hO.1 _ hRel0) e1 ko1 lo1) ⟨by decide, by decide⟩ hl.1 (Nat.le_of_ble_eq_true rfl) dL_law_661 rfl (fun z H locs hM => ?_)
  refine lv_istore (lv' := [(5, .int (kof r)), (0, .ref b), (1, .ref (ad 0)), (2, .ref (ad 304)), (3, .ref (ad 330)), (4, .int x4)]) hx hb dL_law_664 hl (by decide) rfl (fun ls hl => ?_)
  refine lv_aload_n hx hb dL_law_666 rfl (lv_at hl 3 rfl) ?_
  refine lv_aload_n hx hb dL_law_667 rfl (lv_at hl 1 rfl) ?_
  refine lv_iload hx hb dL_law_668 (lv_at hl 5 rfl) ?_
  refine lv_iconst (v := 1) hx hb dL_law_670 (by decide) ?_
  refine lv_iadd hx hb dL_law_671 ?_
  refine va_sld hx hb hX hbl hbA hM.2.2.1 hi1 dL_law_672 ?_
  refine lv_aload_n hx hb dL_law_673 rfl (lv_at hl 1 rfl) ?_
  refine lv_iload hx hb dL_law_674 (lv_at hl 5 rfl) ?_
  refine lv_iconst (v := 2) hx hb dL_law_676 (by decide) ?_
  refine lv_iadd hx hb dL_law_677 ?_
  refine va_sld hx hb hX hbl hbA hM.2.2.1 hi2 dL_law_678 ?_
  refine lv_aload_n hx hb dL_law_679 rfl (lv_at hl 1 rfl) ?_
  refine lv_iload hx hb dL_law_680 (lv_at hl 5 rfl) ?_
  refine lv_iconst (v := 3) hx hb dL_law_682 (by decide) ?_
  refine lv_iadd hx hb dL_law_683 ?_
  refine va_sld hx hb hX hbl hbA hM.2.2.1 hi3 dL_law_684 ?_
  refine lv_aload_n hx hb dL_law_685 rfl (lv_at hl 1 rfl) ?_
  refine lv_iload hx hb dL_law_686 (lv_at hl 5 rfl) ?_
  refine lv_iconst (v := 4) hx hb dL_law_688 (by decide) ?_
  refine lv_iadd hx hb dL_law_689 ?_
  refine va_sld hx hb hX hbl hbA hM.2.2.1 hi4 dL_law_690 ?_
  refine lv_i2l hx hb dL_law_691 rfl ?_
  refine lv_bipush (v := 32) hx hb dL_law_692 (by decide) ?_
  refine lv_lshl hx hb dL_law_694 rfl ?_
  refine lv_aload_n hx hb dL_law_695 rfl (lv_at hl 1 rfl) ?_
  refine lv_iload hx hb dL_law_696 (lv_at hl 5 rfl) ?_
  refine lv_iconst (v := 5) hx hb dL_law_698 (by decide) ?_
  refine lv_iadd hx hb dL_law_699 ?_
  refine va_sld hx hb hX hbl hbA hM.2.2.1 hi5 dL_law_700 ?_
  refine lv_i2l hx hb dL_law_701 rfl ?_
  refine lv_ldc2 (v := 4294967295) hx hb hC.2.2.2.1 (hC.2.2.2.2 _ wkL_88) dL_law_702 ?_
  refine lv_land hx hb dL_law_705 ?_
  refine lv_lor hx hb dL_law_706 ?_
  refine callVg_L (As := [.int (xs (x4 + 1).toNatClampNeg), .int (xs (x4 + 2).toNatClampNeg), .int (xs (x4 + 3).toNatClampNeg), .long (((((xs (x4 + 4).toNatClampNeg) : Int32).toInt64) <<< (((32) : Int32).toInt64 &&& 63)) ||| ((((xs (x4 + 5).toNatClampNeg) : Int32).toInt64) &&& 4294967295))]) ⟨by show _ ≤ 601024; omega, by show _ ≤ 7293034; omega⟩ k1 (by decide) rfl mlL_93 wiL_X9_bill wsL_X9_bill rfl wnL_X9 wcL_X9_bill hdL_X9_bill hC hG.1 hM (cX9_bill_ok e2) ⟨by decide, by decide⟩ hl.1 (Nat.le_of_ble_eq_true rfl) dL_law_707 rfl (fun H locs hM => ?_)
  refine lv_lstore (lv' := [(6, .long b0), (5, .int (kof r)), (0, .ref b), (1, .ref (ad 0)), (2, .ref (ad 304)), (3, .ref (ad 330)), (4, .int x4)]) hx hb dL_law_710 hl (by decide) rfl (fun ls hl => ?_)
  refine lv_aload_n hx hb dL_law_712 rfl (lv_at hl 4 rfl) ?_
  refine callVg_I (As := []) ⟨by show _ ≤ 601024; omega, by show _ ≤ 7293034; omega⟩ k2 (by decide) rfl mlL_60 wiL_X9_thrown wsL_X9_thrown rfl wnL_X9 wcL_X9_thrown hdL_X9_thrown hC hG.1 hM (cX9_thrown_ok (thrown_ok k2 ht)) ⟨by decide, by decide⟩ hl.1 (Nat.le_of_ble_eq_true rfl) dL_law_713 rfl (fun H locs hM => ?_)
  refine lv_iload hx hb dL_law_716 (lv_at hl 1 rfl) ?_
  refine lv_icmp_eq (tgt := 723) hx hb dL_law_718 (by decide) (fun _ => ?_) (fun c0 => absurd rfl c0)
  refine lv_iload hx hb dL_law_723 (lv_at hl 1 rfl) ?_
  refine lv_if_ne (tgt := 739) hx hb dL_law_725 (by decide) (fun c_k => ?_) (fun c_k => ?_)
  · skip
    refine lv_goto (tgt := 1025) hx hb dL_law_739 (by decide) ?_
    exact hnext _ _ _ _ _ _ _ (Nat.le_refl _) (Nat.le_refl _) hRel2 hM (lv_sub hl [2, 3, 4, 5, 6] rfl)
  · skip
    refine lv_aload_n hx hb dL_law_728 rfl (lv_at hl 5 rfl) ?_
    refine lv_iconst (v := 0) hx hb dL_law_729 (by decide) ?_
    refine g_lald (v := some 330) hx hb hG.1 hM (aJ_out ko2 lo2 (hv c_k)) dL_law_730 ?_
    refine lv_lload hx hb dL_law_731 (lv_at hl 0 rfl) ?_
    refine lc_eq (tgt := 739) hx hb dL_law_733 dL_law_734 (by decide) (fun _ => ?_) (fun c0 => absurd rfl c0)
    refine lv_goto (tgt := 1025) hx hb dL_law_739 (by decide) ?_
    exact hnext _ _ _ _ _ _ _ (Nat.le_refl _) (Nat.le_refl _) hRel2 hM (lv_sub hl [2, 3, 4, 5, 6] rfl)
theorem mlL_94 : Cond.methodLink RL 94 yX8_best ∈ WALL := WALL_of (List.mem_of_getElem? (i := 528) (by decide +kernel)) (by decide +kernel)
theorem hdL_X8_best : yX8_best.cls ≠ "java/lang/invoke/MethodHandle" ∧ yX8_best.cls ≠ "java/lang/invoke/VarHandle" ∧ (parseMethodDescriptor yX8_best.desc).map (fun d => d.parameters.length) = some 3 := by decide +kernel
theorem wcL_X8_best : Cond.code yX8_best cX8_best 6 (some .long) ∈ WALL := WALL_of (List.mem_of_getElem? (i := 531) (by decide +kernel)) (by decide +kernel)
theorem wiL_X8_best : Cond.instanceMethod yX8_best ∈ WALL := WALL_of (List.mem_of_getElem? (i := 529) (by decide +kernel)) (by decide +kernel)
theorem wsL_X8_best : Cond.selects RX8 yX8_best yX8_best ∈ WALL := WALL_of (List.mem_of_getElem? (i := 530) (by decide +kernel)) (by decide +kernel)
theorem mlL_98 : Cond.methodLink RL 98 yX9_best ∈ WALL := WALL_of (List.mem_of_getElem? (i := 1071) (by decide +kernel)) (by decide +kernel)
theorem hdL_X9_best : yX9_best.cls ≠ "java/lang/invoke/MethodHandle" ∧ yX9_best.cls ≠ "java/lang/invoke/VarHandle" ∧ (parseMethodDescriptor yX9_best.desc).map (fun d => d.parameters.length) = some 3 := by decide +kernel
theorem wcL_X9_best : Cond.code yX9_best cX9_best 6 (some .long) ∈ WALL := WALL_of (List.mem_of_getElem? (i := 1074) (by decide +kernel)) (by decide +kernel)
theorem wiL_X9_best : Cond.instanceMethod yX9_best ∈ WALL := WALL_of (List.mem_of_getElem? (i := 1072) (by decide +kernel)) (by decide +kernel)
theorem wsL_X9_best : Cond.selects RX9 yX9_best yX9_best ∈ WALL := WALL_of (List.mem_of_getElem? (i := 1073) (by decide +kernel)) (by decide +kernel)
set_option maxRecDepth 20000 in
theorem law_c12 {p : Program} {l : Launch} {e : Env} {s : State} {m : MethodId} {below : List Frame} {meth : Method} {c : Code} {D : va_G} {cy : Nat → ClassId} {b L : Nat} {xs : Nat → Int32} {Rel : Mem → Prop} {ad : Nat → Nat} (C0 : lw_At p s m meth c b L xs) (hls : l.stackTraces = false) (hG : GX D cy (fun q : Nat => s.heap.size ≤ q) s) (hO : OPS Rel) {x4 : Int32} (hi1 : vp_in (x4 + 1) L) (hi2 : vp_in (x4 + 2) L) (hi3 : vp_in (x4 + 3) L) (hi4 : vp_in (x4 + 4) L) (hi5 : vp_in (x4 + 5) L) {z cells slots : Nat} {σ : Mem} {H : Heap} {locs : List Loc} {ls : Array Slot} (hcs : cells + 1 ≤ 601024 ∧ slots + 6 ≤ 7293034) (hRel : Rel σ) (hM : MS D cy ad (fun q : Nat => s.heap.size ≤ q) s.heap z σ H locs) (hl : lv_has ls 8 [(0, .ref b), (1, .ref (ad 0)), (2, .ref (ad 304)), (3, .ref (ad 330)), (4, .int x4)]) (hnext : ∀ (z cells' slots' : Nat) (τ : Mem) (H : Heap) (locs : List Loc) (ls : Array Slot), cells' ≤ cells + 1 → slots' ≤ slots + 6 → Rel τ → MS D cy ad (fun q : Nat => s.heap.size ≤ q) s.heap z τ H locs → lv_has ls 8 [(0, .ref b), (1, .ref (ad 0)), (2, .ref (ad 304)), (3, .ref (ad 330)), (4, .int x4)] → W p l e room_1 s m #[Value.ref b] below meth c H locs cells' slots' (lw_Z below #[Value.ref b] s) (F0 m 1025 ls [])) : W p l e room_1 s m #[Value.ref b] below meth c H locs cells slots (lw_Z below #[Value.ref b] s) (F0 m 742 ls []) := by
  obtain ⟨hx, hb, hr, hml, hown, hts, hX, hbl, hlocks, hgv⟩ := id C0
  have hbA : ¬ (fun q : Nat => s.heap.size ≤ q) b := Nat.not_le.mpr hbl
  have hC : CallFix p m c cL_law 8 s #[Value.ref b] WALL RL := ⟨hx, hb, hml, hown, fun w hw => hts w (List.mem_filter.mp hw).1⟩
  have hRel0 := hRel
  obtain ⟨r, σ1, σ2, e1, k1, e2, hRel2⟩ := (hO.2.2.2.2.2.2.2.2.2.2.2.2.2.1 (xs (x4 + 1).toNatClampNeg) (xs (x4 + 2).toNatClampNeg) (xs (x4 + 3).toNatClampNeg)) σ hRel
  refine lv_aload_n hx hb dL_law_742 rfl (lv_at hl 1 rfl) ?_
  refine lv_aload_n hx hb dL_law_743 rfl (lv_at hl 0 rfl) ?_
  refine lv_iload hx hb dL_law_744 (lv_at hl 4 rfl) ?_
  refine lv_iconst (v := 1) hx hb dL_law_746 (by decide) ?_
  refine lv_iadd hx hb dL_law_747 ?_
  refine va_sld hx hb hX hbl hbA hM.2.2.1 hi1 dL_law_748 ?_
  refine lv_aload_n hx hb dL_law_749 rfl (lv_at hl 0 rfl) ?_
  refine lv_iload hx hb dL_law_750 (lv_at hl 4 rfl) ?_
  refine lv_iconst (v := 2) hx hb dL_law_752 (by decide) ?_
  refine lv_iadd hx hb dL_law_753 ?_
  refine va_sld hx hb hX hbl hbA hM.2.2.1 hi2 dL_law_754 ?_
  refine lv_aload_n hx hb dL_law_755 rfl (lv_at hl 0 rfl) ?_
  refine lv_iload hx hb dL_law_756 (lv_at hl 4 rfl) ?_
  refine lv_iconst (v := 3) hx hb dL_law_758 (by decide) ?_
  refine lv_iadd hx hb dL_law_759 ?_
  refine va_sld hx hb hX hbl hbA hM.2.2.1 hi3 dL_law_760 ?_
  refine callVg_L (As := [.int (xs (x4 + 1).toNatClampNeg), .int (xs (x4 + 2).toNatClampNeg), .int (xs (x4 + 3).toNatClampNeg)]) ⟨by show _ ≤ 601024; omega, by show _ ≤ 7293034; omega⟩ (hO.1 _ hRel) (by decide) rfl mlL_94 wiL_X8_best wsL_X8_best rfl wnL_X8 wcL_X8_best hdL_X8_best hC hG.1 hM (cX8_best_ok e1) ⟨by decide, by decide⟩ hl.1 (Nat.le_of_ble_eq_true rfl) dL_law_761 rfl (fun H locs hM => ?_)
  refine lv_aload_n hx hb dL_law_764 rfl (lv_at hl 2 rfl) ?_
  refine lv_aload_n hx hb dL_law_765 rfl (lv_at hl 0 rfl) ?_
  refine lv_iload hx hb dL_law_766 (lv_at hl 4 rfl) ?_
  refine lv_iconst (v := 1) hx hb dL_law_768 (by decide) ?_
  refine lv_iadd hx hb dL_law_769 ?_
  refine va_sld hx hb hX hbl hbA hM.2.2.1 hi1 dL_law_770 ?_
  refine lv_aload_n hx hb dL_law_771 rfl (lv_at hl 0 rfl) ?_
  refine lv_iload hx hb dL_law_772 (lv_at hl 4 rfl) ?_
  refine lv_iconst (v := 2) hx hb dL_law_774 (by decide) ?_
  refine lv_iadd hx hb dL_law_775 ?_
  refine va_sld hx hb hX hbl hbA hM.2.2.1 hi2 dL_law_776 ?_
  refine lv_aload_n hx hb dL_law_777 rfl (lv_at hl 0 rfl) ?_
  refine lv_iload hx hb dL_law_778 (lv_at hl 4 rfl) ?_
  refine lv_iconst (v := 3) hx hb dL_law_780 (by decide) ?_
  refine lv_iadd hx hb dL_law_781 ?_
  refine va_sld hx hb hX hbl hbA hM.2.2.1 hi3 dL_law_782 ?_
  refine callVg_L (As := [.int (xs (x4 + 1).toNatClampNeg), .int (xs (x4 + 2).toNatClampNeg), .int (xs (x4 + 3).toNatClampNeg)]) ⟨by show _ ≤ 601024; omega, by show _ ≤ 7293034; omega⟩ k1 (by decide) rfl mlL_98 wiL_X9_best wsL_X9_best rfl wnL_X9 wcL_X9_best hdL_X9_best hC hG.1 hM (cX9_best_ok e2) ⟨by decide, by decide⟩ hl.1 (Nat.le_of_ble_eq_true rfl) dL_law_783 rfl (fun H locs hM => ?_)
  refine lc_eq (tgt := 1025) hx hb dL_law_786 dL_law_787 (by decide) (fun _ => ?_) (fun c0 => absurd rfl c0)
  exact hnext _ _ _ _ _ _ _ (Nat.le_succ _) (Nat.le_add_right _ 6) hRel2 hM (lv_sub hl [0, 1, 2, 3, 4] rfl)
theorem mlL_99 : Cond.methodLink RL 99 yX8_had ∈ WALL := WALL_of (List.mem_of_getElem? (i := 611) (by decide +kernel)) (by decide +kernel)
theorem hdL_X8_had : yX8_had.cls ≠ "java/lang/invoke/MethodHandle" ∧ yX8_had.cls ≠ "java/lang/invoke/VarHandle" ∧ (parseMethodDescriptor yX8_had.desc).map (fun d => d.parameters.length) = some 1 := by decide +kernel
theorem wcL_X8_had : Cond.code yX8_had cX8_had 2 (some .int) ∈ WALL := WALL_of (List.mem_of_getElem? (i := 614) (by decide +kernel)) (by decide +kernel)
theorem wiL_X8_had : Cond.instanceMethod yX8_had ∈ WALL := WALL_of (List.mem_of_getElem? (i := 612) (by decide +kernel)) (by decide +kernel)
theorem wsL_X8_had : Cond.selects RX8 yX8_had yX8_had ∈ WALL := WALL_of (List.mem_of_getElem? (i := 613) (by decide +kernel)) (by decide +kernel)
theorem mlL_102 : Cond.methodLink RL 102 yX9_had ∈ WALL := WALL_of (List.mem_of_getElem? (i := 1100) (by decide +kernel)) (by decide +kernel)
theorem hdL_X9_had : yX9_had.cls ≠ "java/lang/invoke/MethodHandle" ∧ yX9_had.cls ≠ "java/lang/invoke/VarHandle" ∧ (parseMethodDescriptor yX9_had.desc).map (fun d => d.parameters.length) = some 1 := by decide +kernel
theorem wcL_X9_had : Cond.code yX9_had cX9_had 2 (some .int) ∈ WALL := WALL_of (List.mem_of_getElem? (i := 1103) (by decide +kernel)) (by decide +kernel)
theorem wiL_X9_had : Cond.instanceMethod yX9_had ∈ WALL := WALL_of (List.mem_of_getElem? (i := 1101) (by decide +kernel)) (by decide +kernel)
theorem wsL_X9_had : Cond.selects RX9 yX9_had yX9_had ∈ WALL := WALL_of (List.mem_of_getElem? (i := 1102) (by decide +kernel)) (by decide +kernel)
set_option maxRecDepth 20000 in
theorem law_c13 {p : Program} {l : Launch} {e : Env} {s : State} {m : MethodId} {below : List Frame} {meth : Method} {c : Code} {D : va_G} {cy : Nat → ClassId} {b L : Nat} {xs : Nat → Int32} {Rel : Mem → Prop} {ad : Nat → Nat} (C0 : lw_At p s m meth c b L xs) (hls : l.stackTraces = false) (hG : GX D cy (fun q : Nat => s.heap.size ≤ q) s) (hO : OPS Rel) {x4 : Int32} (hi1 : vp_in (x4 + 1) L) (hi2 : vp_in (x4 + 2) L) (hi3 : vp_in (x4 + 3) L) (hi4 : vp_in (x4 + 4) L) (hi5 : vp_in (x4 + 5) L) {z cells slots : Nat} {σ : Mem} {H : Heap} {locs : List Loc} {ls : Array Slot} (hcs : cells + 1 ≤ 601024 ∧ slots + 6 ≤ 7293034) (hRel : Rel σ) (hM : MS D cy ad (fun q : Nat => s.heap.size ≤ q) s.heap z σ H locs) (hl : lv_has ls 8 [(0, .ref b), (1, .ref (ad 0)), (2, .ref (ad 304)), (3, .ref (ad 330)), (4, .int x4)]) (hnext : ∀ (z cells' slots' : Nat) (τ : Mem) (H : Heap) (locs : List Loc) (ls : Array Slot), cells' ≤ cells + 1 → slots' ≤ slots + 6 → Rel τ → MS D cy ad (fun q : Nat => s.heap.size ≤ q) s.heap z τ H locs → lv_has ls 8 [(0, .ref b), (1, .ref (ad 0)), (2, .ref (ad 304)), (3, .ref (ad 330)), (4, .int x4)] → W p l e room_1 s m #[Value.ref b] below meth c H locs cells' slots' (lw_Z below #[Value.ref b] s) (F0 m 1025 ls [])) : W p l e room_1 s m #[Value.ref b] below meth c H locs cells slots (lw_Z below #[Value.ref b] s) (F0 m 792 ls []) := by
  obtain ⟨hx, hb, hr, hml, hown, hts, hX, hbl, hlocks, hgv⟩ := id C0
  have hbA : ¬ (fun q : Nat => s.heap.size ≤ q) b := Nat.not_le.mpr hbl
  have hC : CallFix p m c cL_law 8 s #[Value.ref b] WALL RL := ⟨hx, hb, hml, hown, fun w hw => hts w (List.mem_filter.mp hw).1⟩
  have hRel0 := hRel
  obtain ⟨r, σ1, σ2, e1, k1, e2, hRel2⟩ := (hO.2.2.2.2.2.2.2.2.2.2.2.2.2.2.1 (xs (x4 + 1).toNatClampNeg)) σ hRel
  refine lv_aload_n hx hb dL_law_792 rfl (lv_at hl 1 rfl) ?_
  refine lv_aload_n hx hb dL_law_793 rfl (lv_at hl 0 rfl) ?_
  refine lv_iload hx hb dL_law_794 (lv_at hl 4 rfl) ?_
  refine lv_iconst (v := 1) hx hb dL_law_796 (by decide) ?_
  refine lv_iadd hx hb dL_law_797 ?_
  refine va_sld hx hb hX hbl hbA hM.2.2.1 hi1 dL_law_798 ?_
  refine callVg_I (As := [.int (xs (x4 + 1).toNatClampNeg)]) ⟨by show _ ≤ 601024; omega, by show _ ≤ 7293034; omega⟩ (hO.1 _ hRel) (by decide) rfl mlL_99 wiL_X8_had wsL_X8_had rfl wnL_X8 wcL_X8_had hdL_X8_had hC hG.1 hM (cX8_had_ok e1) ⟨by decide, by decide⟩ hl.1 (Nat.le_of_ble_eq_true rfl) dL_law_799 rfl (fun H locs hM => ?_)
  refine lv_aload_n hx hb dL_law_802 rfl (lv_at hl 2 rfl) ?_
  refine lv_aload_n hx hb dL_law_803 rfl (lv_at hl 0 rfl) ?_
  refine lv_iload hx hb dL_law_804 (lv_at hl 4 rfl) ?_
  refine lv_iconst (v := 1) hx hb dL_law_806 (by decide) ?_
  refine lv_iadd hx hb dL_law_807 ?_
  refine va_sld hx hb hX hbl hbA hM.2.2.1 hi1 dL_law_808 ?_
  refine callVg_I (As := [.int (xs (x4 + 1).toNatClampNeg)]) ⟨by show _ ≤ 601024; omega, by show _ ≤ 7293034; omega⟩ k1 (by decide) rfl mlL_102 wiL_X9_had wsL_X9_had rfl wnL_X9 wcL_X9_had hdL_X9_had hC hG.1 hM (cX9_had_ok e2) ⟨by decide, by decide⟩ hl.1 (Nat.le_of_ble_eq_true rfl) dL_law_809 rfl (fun H locs hM => ?_)
  refine lv_icmp_eq (tgt := 1025) hx hb dL_law_812 (by decide) (fun _ => ?_) (fun c0 => absurd rfl c0)
  exact hnext _ _ _ _ _ _ _ (Nat.le_succ _) (Nat.le_add_right _ 6) hRel2 hM (lv_sub hl [0, 1, 2, 3, 4] rfl)
theorem mlL_103 : Cond.methodLink RL 103 yX8_bills ∈ WALL := WALL_of (List.mem_of_getElem? (i := 615) (by decide +kernel)) (by decide +kernel)
theorem hdL_X8_bills : yX8_bills.cls ≠ "java/lang/invoke/MethodHandle" ∧ yX8_bills.cls ≠ "java/lang/invoke/VarHandle" ∧ (parseMethodDescriptor yX8_bills.desc).map (fun d => d.parameters.length) = some 0 := by decide +kernel
theorem wcL_X8_bills : Cond.code yX8_bills cX8_bills 2 (some .long) ∈ WALL := WALL_of (List.mem_of_getElem? (i := 618) (by decide +kernel)) (by decide +kernel)
theorem wiL_X8_bills : Cond.instanceMethod yX8_bills ∈ WALL := WALL_of (List.mem_of_getElem? (i := 616) (by decide +kernel)) (by decide +kernel)
theorem wsL_X8_bills : Cond.selects RX8 yX8_bills yX8_bills ∈ WALL := WALL_of (List.mem_of_getElem? (i := 617) (by decide +kernel)) (by decide +kernel)
theorem mlL_107 : Cond.methodLink RL 107 yX9_bills ∈ WALL := WALL_of (List.mem_of_getElem? (i := 1104) (by decide +kernel)) (by decide +kernel)
theorem hdL_X9_bills : yX9_bills.cls ≠ "java/lang/invoke/MethodHandle" ∧ yX9_bills.cls ≠ "java/lang/invoke/VarHandle" ∧ (parseMethodDescriptor yX9_bills.desc).map (fun d => d.parameters.length) = some 0 := by decide +kernel
theorem wcL_X9_bills : Cond.code yX9_bills cX9_bills 5 (some .long) ∈ WALL := WALL_of (List.mem_of_getElem? (i := 1107) (by decide +kernel)) (by decide +kernel)
theorem wiL_X9_bills : Cond.instanceMethod yX9_bills ∈ WALL := WALL_of (List.mem_of_getElem? (i := 1105) (by decide +kernel)) (by decide +kernel)
theorem wsL_X9_bills : Cond.selects RX9 yX9_bills yX9_bills ∈ WALL := WALL_of (List.mem_of_getElem? (i := 1106) (by decide +kernel)) (by decide +kernel)
set_option maxRecDepth 20000 in
theorem law_c14 {p : Program} {l : Launch} {e : Env} {s : State} {m : MethodId} {below : List Frame} {meth : Method} {c : Code} {D : va_G} {cy : Nat → ClassId} {b L : Nat} {xs : Nat → Int32} {Rel : Mem → Prop} {ad : Nat → Nat} (C0 : lw_At p s m meth c b L xs) (hls : l.stackTraces = false) (hG : GX D cy (fun q : Nat => s.heap.size ≤ q) s) (hO : OPS Rel) {x4 : Int32} (hi1 : vp_in (x4 + 1) L) (hi2 : vp_in (x4 + 2) L) (hi3 : vp_in (x4 + 3) L) (hi4 : vp_in (x4 + 4) L) (hi5 : vp_in (x4 + 5) L) {z cells slots : Nat} {σ : Mem} {H : Heap} {locs : List Loc} {ls : Array Slot} (hcs : cells + 1 ≤ 601024 ∧ slots + 6 ≤ 7293034) (hRel : Rel σ) (hM : MS D cy ad (fun q : Nat => s.heap.size ≤ q) s.heap z σ H locs) (hl : lv_has ls 8 [(0, .ref b), (1, .ref (ad 0)), (2, .ref (ad 304)), (3, .ref (ad 330)), (4, .int x4)]) (hnext : ∀ (z cells' slots' : Nat) (τ : Mem) (H : Heap) (locs : List Loc) (ls : Array Slot), cells' ≤ cells + 1 → slots' ≤ slots + 6 → Rel τ → MS D cy ad (fun q : Nat => s.heap.size ≤ q) s.heap z τ H locs → lv_has ls 8 [(0, .ref b), (1, .ref (ad 0)), (2, .ref (ad 304)), (3, .ref (ad 330)), (4, .int x4)] → W p l e room_1 s m #[Value.ref b] below meth c H locs cells' slots' (lw_Z below #[Value.ref b] s) (F0 m 1025 ls [])) : W p l e room_1 s m #[Value.ref b] below meth c H locs cells slots (lw_Z below #[Value.ref b] s) (F0 m 817 ls []) := by
  obtain ⟨hx, hb, hr, hml, hown, hts, hX, hbl, hlocks, hgv⟩ := id C0
  have hbA : ¬ (fun q : Nat => s.heap.size ≤ q) b := Nat.not_le.mpr hbl
  have hC : CallFix p m c cL_law 8 s #[Value.ref b] WALL RL := ⟨hx, hb, hml, hown, fun w hw => hts w (List.mem_filter.mp hw).1⟩
  have hRel0 := hRel
  obtain ⟨r, σ1, σ2, e1, k1, e2, hRel2⟩ := (hO.2.2.2.2.2.2.2.2.2.2.2.2.2.2.2.1 ) σ hRel
  refine lv_aload_n hx hb dL_law_817 rfl (lv_at hl 1 rfl) ?_
  refine callVg_L (As := []) ⟨by show _ ≤ 601024; omega, by show _ ≤ 7293034; omega⟩ (hO.1 _ hRel) (by decide) rfl mlL_103 wiL_X8_bills wsL_X8_bills rfl wnL_X8 wcL_X8_bills hdL_X8_bills hC hG.1 hM (cX8_bills_ok e1) ⟨by decide, by decide⟩ hl.1 (Nat.le_of_ble_eq_true rfl) dL_law_818 rfl (fun H locs hM => ?_)
  refine lv_aload_n hx hb dL_law_821 rfl (lv_at hl 2 rfl) ?_
  refine callVg_L (As := []) ⟨by show _ ≤ 601024; omega, by show _ ≤ 7293034; omega⟩ k1 (by decide) rfl mlL_107 wiL_X9_bills wsL_X9_bills rfl wnL_X9 wcL_X9_bills hdL_X9_bills hC hG.1 hM (cX9_bills_ok e2) ⟨by decide, by decide⟩ hl.1 (Nat.le_of_ble_eq_true rfl) dL_law_822 rfl (fun H locs hM => ?_)
  refine lc_eq (tgt := 1025) hx hb dL_law_825 dL_law_826 (by decide) (fun _ => ?_) (fun c0 => absurd rfl c0)
  exact hnext _ _ _ _ _ _ _ (Nat.le_succ _) (Nat.le_add_right _ 6) hRel2 hM (lv_sub hl [0, 1, 2, 3, 4] rfl)
theorem mlL_108 : Cond.methodLink RL 108 yX8_group ∈ WALL := WALL_of (List.mem_of_getElem? (i := 639) (by decide +kernel)) (by decide +kernel)
theorem hdL_X8_group : yX8_group.cls ≠ "java/lang/invoke/MethodHandle" ∧ yX8_group.cls ≠ "java/lang/invoke/VarHandle" ∧ (parseMethodDescriptor yX8_group.desc).map (fun d => d.parameters.length) = some 1 := by decide +kernel
theorem wcL_X8_group : Cond.code yX8_group cX8_group 2 (some .int) ∈ WALL := WALL_of (List.mem_of_getElem? (i := 642) (by decide +kernel)) (by decide +kernel)
theorem wiL_X8_group : Cond.instanceMethod yX8_group ∈ WALL := WALL_of (List.mem_of_getElem? (i := 640) (by decide +kernel)) (by decide +kernel)
theorem wsL_X8_group : Cond.selects RX8 yX8_group yX8_group ∈ WALL := WALL_of (List.mem_of_getElem? (i := 641) (by decide +kernel)) (by decide +kernel)
theorem mlL_111 : Cond.methodLink RL 111 yX9_group ∈ WALL := WALL_of (List.mem_of_getElem? (i := 1108) (by decide +kernel)) (by decide +kernel)
theorem hdL_X9_group : yX9_group.cls ≠ "java/lang/invoke/MethodHandle" ∧ yX9_group.cls ≠ "java/lang/invoke/VarHandle" ∧ (parseMethodDescriptor yX9_group.desc).map (fun d => d.parameters.length) = some 1 := by decide +kernel
theorem wcL_X9_group : Cond.code yX9_group cX9_group 2 (some .int) ∈ WALL := WALL_of (List.mem_of_getElem? (i := 1111) (by decide +kernel)) (by decide +kernel)
theorem wiL_X9_group : Cond.instanceMethod yX9_group ∈ WALL := WALL_of (List.mem_of_getElem? (i := 1109) (by decide +kernel)) (by decide +kernel)
theorem wsL_X9_group : Cond.selects RX9 yX9_group yX9_group ∈ WALL := WALL_of (List.mem_of_getElem? (i := 1110) (by decide +kernel)) (by decide +kernel)
set_option maxRecDepth 20000 in
theorem law_c15 {p : Program} {l : Launch} {e : Env} {s : State} {m : MethodId} {below : List Frame} {meth : Method} {c : Code} {D : va_G} {cy : Nat → ClassId} {b L : Nat} {xs : Nat → Int32} {Rel : Mem → Prop} {ad : Nat → Nat} (C0 : lw_At p s m meth c b L xs) (hls : l.stackTraces = false) (hG : GX D cy (fun q : Nat => s.heap.size ≤ q) s) (hO : OPS Rel) {x4 : Int32} (hi1 : vp_in (x4 + 1) L) (hi2 : vp_in (x4 + 2) L) (hi3 : vp_in (x4 + 3) L) (hi4 : vp_in (x4 + 4) L) (hi5 : vp_in (x4 + 5) L) {z cells slots : Nat} {σ : Mem} {H : Heap} {locs : List Loc} {ls : Array Slot} (hcs : cells + 1 ≤ 601024 ∧ slots + 6 ≤ 7293034) (hRel : Rel σ) (hM : MS D cy ad (fun q : Nat => s.heap.size ≤ q) s.heap z σ H locs) (hl : lv_has ls 8 [(0, .ref b), (1, .ref (ad 0)), (2, .ref (ad 304)), (3, .ref (ad 330)), (4, .int x4)]) (hnext : ∀ (z cells' slots' : Nat) (τ : Mem) (H : Heap) (locs : List Loc) (ls : Array Slot), cells' ≤ cells + 1 → slots' ≤ slots + 6 → Rel τ → MS D cy ad (fun q : Nat => s.heap.size ≤ q) s.heap z τ H locs → lv_has ls 8 [(0, .ref b), (1, .ref (ad 0)), (2, .ref (ad 304)), (3, .ref (ad 330)), (4, .int x4)] → W p l e room_1 s m #[Value.ref b] below meth c H locs cells' slots' (lw_Z below #[Value.ref b] s) (F0 m 1025 ls [])) : W p l e room_1 s m #[Value.ref b] below meth c H locs cells slots (lw_Z below #[Value.ref b] s) (F0 m 831 ls []) := by
  obtain ⟨hx, hb, hr, hml, hown, hts, hX, hbl, hlocks, hgv⟩ := id C0
  have hbA : ¬ (fun q : Nat => s.heap.size ≤ q) b := Nat.not_le.mpr hbl
  have hC : CallFix p m c cL_law 8 s #[Value.ref b] WALL RL := ⟨hx, hb, hml, hown, fun w hw => hts w (List.mem_filter.mp hw).1⟩
  have hRel0 := hRel
  obtain ⟨r, σ1, σ2, e1, k1, e2, hRel2⟩ := (hO.2.2.2.2.2.2.2.2.2.2.2.2.2.2.2.2.1 (xs (x4 + 1).toNatClampNeg)) σ hRel
  refine lv_aload_n hx hb dL_law_831 rfl (lv_at hl 1 rfl) ?_
  refine lv_aload_n hx hb dL_law_832 rfl (lv_at hl 0 rfl) ?_
  refine lv_iload hx hb dL_law_833 (lv_at hl 4 rfl) ?_
  refine lv_iconst (v := 1) hx hb dL_law_835 (by decide) ?_
  refine lv_iadd hx hb dL_law_836 ?_
  refine va_sld hx hb hX hbl hbA hM.2.2.1 hi1 dL_law_837 ?_
  refine callVg_I (As := [.int (xs (x4 + 1).toNatClampNeg)]) ⟨by show _ ≤ 601024; omega, by show _ ≤ 7293034; omega⟩ (hO.1 _ hRel) (by decide) rfl mlL_108 wiL_X8_group wsL_X8_group rfl wnL_X8 wcL_X8_group hdL_X8_group hC hG.1 hM (cX8_group_ok e1) ⟨by decide, by decide⟩ hl.1 (Nat.le_of_ble_eq_true rfl) dL_law_838 rfl (fun H locs hM => ?_)
  refine lv_aload_n hx hb dL_law_841 rfl (lv_at hl 2 rfl) ?_
  refine lv_aload_n hx hb dL_law_842 rfl (lv_at hl 0 rfl) ?_
  refine lv_iload hx hb dL_law_843 (lv_at hl 4 rfl) ?_
  refine lv_iconst (v := 1) hx hb dL_law_845 (by decide) ?_
  refine lv_iadd hx hb dL_law_846 ?_
  refine va_sld hx hb hX hbl hbA hM.2.2.1 hi1 dL_law_847 ?_
  refine callVg_I (As := [.int (xs (x4 + 1).toNatClampNeg)]) ⟨by show _ ≤ 601024; omega, by show _ ≤ 7293034; omega⟩ k1 (by decide) rfl mlL_111 wiL_X9_group wsL_X9_group rfl wnL_X9 wcL_X9_group hdL_X9_group hC hG.1 hM (cX9_group_ok e2) ⟨by decide, by decide⟩ hl.1 (Nat.le_of_ble_eq_true rfl) dL_law_848 rfl (fun H locs hM => ?_)
  refine lv_icmp_eq (tgt := 1025) hx hb dL_law_851 (by decide) (fun _ => ?_) (fun c0 => absurd rfl c0)
  exact hnext _ _ _ _ _ _ _ (Nat.le_succ _) (Nat.le_add_right _ 6) hRel2 hM (lv_sub hl [0, 1, 2, 3, 4] rfl)
theorem mlL_112 : Cond.methodLink RL 112 yX8_span ∈ WALL := WALL_of (List.mem_of_getElem? (i := 643) (by decide +kernel)) (by decide +kernel)
theorem hdL_X8_span : yX8_span.cls ≠ "java/lang/invoke/MethodHandle" ∧ yX8_span.cls ≠ "java/lang/invoke/VarHandle" ∧ (parseMethodDescriptor yX8_span.desc).map (fun d => d.parameters.length) = some 3 := by decide +kernel
theorem wcL_X8_span : Cond.code yX8_span cX8_span 4 (some .boolean) ∈ WALL := WALL_of (List.mem_of_getElem? (i := 646) (by decide +kernel)) (by decide +kernel)
theorem wiL_X8_span : Cond.instanceMethod yX8_span ∈ WALL := WALL_of (List.mem_of_getElem? (i := 644) (by decide +kernel)) (by decide +kernel)
theorem wsL_X8_span : Cond.selects RX8 yX8_span yX8_span ∈ WALL := WALL_of (List.mem_of_getElem? (i := 645) (by decide +kernel)) (by decide +kernel)
theorem mlL_116 : Cond.methodLink RL 116 yX9_span ∈ WALL := WALL_of (List.mem_of_getElem? (i := 1112) (by decide +kernel)) (by decide +kernel)
theorem hdL_X9_span : yX9_span.cls ≠ "java/lang/invoke/MethodHandle" ∧ yX9_span.cls ≠ "java/lang/invoke/VarHandle" ∧ (parseMethodDescriptor yX9_span.desc).map (fun d => d.parameters.length) = some 3 := by decide +kernel
theorem wcL_X9_span : Cond.code yX9_span cX9_span 4 (some .boolean) ∈ WALL := WALL_of (List.mem_of_getElem? (i := 1115) (by decide +kernel)) (by decide +kernel)
theorem wiL_X9_span : Cond.instanceMethod yX9_span ∈ WALL := WALL_of (List.mem_of_getElem? (i := 1113) (by decide +kernel)) (by decide +kernel)
theorem wsL_X9_span : Cond.selects RX9 yX9_span yX9_span ∈ WALL := WALL_of (List.mem_of_getElem? (i := 1114) (by decide +kernel)) (by decide +kernel)
set_option maxRecDepth 20000 in
theorem law_c16 {p : Program} {l : Launch} {e : Env} {s : State} {m : MethodId} {below : List Frame} {meth : Method} {c : Code} {D : va_G} {cy : Nat → ClassId} {b L : Nat} {xs : Nat → Int32} {Rel : Mem → Prop} {ad : Nat → Nat} (C0 : lw_At p s m meth c b L xs) (hls : l.stackTraces = false) (hG : GX D cy (fun q : Nat => s.heap.size ≤ q) s) (hO : OPS Rel) {x4 : Int32} (hi1 : vp_in (x4 + 1) L) (hi2 : vp_in (x4 + 2) L) (hi3 : vp_in (x4 + 3) L) (hi4 : vp_in (x4 + 4) L) (hi5 : vp_in (x4 + 5) L) {z cells slots : Nat} {σ : Mem} {H : Heap} {locs : List Loc} {ls : Array Slot} (hcs : cells + 1 ≤ 601024 ∧ slots + 6 ≤ 7293034) (hRel : Rel σ) (hM : MS D cy ad (fun q : Nat => s.heap.size ≤ q) s.heap z σ H locs) (hl : lv_has ls 8 [(0, .ref b), (1, .ref (ad 0)), (2, .ref (ad 304)), (3, .ref (ad 330)), (4, .int x4)]) (hnext : ∀ (z cells' slots' : Nat) (τ : Mem) (H : Heap) (locs : List Loc) (ls : Array Slot), cells' ≤ cells + 1 → slots' ≤ slots + 6 → Rel τ → MS D cy ad (fun q : Nat => s.heap.size ≤ q) s.heap z τ H locs → lv_has ls 8 [(0, .ref b), (1, .ref (ad 0)), (2, .ref (ad 304)), (3, .ref (ad 330)), (4, .int x4)] → W p l e room_1 s m #[Value.ref b] below meth c H locs cells' slots' (lw_Z below #[Value.ref b] s) (F0 m 1025 ls [])) : W p l e room_1 s m #[Value.ref b] below meth c H locs cells slots (lw_Z below #[Value.ref b] s) (F0 m 856 ls []) := by
  obtain ⟨hx, hb, hr, hml, hown, hts, hX, hbl, hlocks, hgv⟩ := id C0
  have hbA : ¬ (fun q : Nat => s.heap.size ≤ q) b := Nat.not_le.mpr hbl
  have hC : CallFix p m c cL_law 8 s #[Value.ref b] WALL RL := ⟨hx, hb, hml, hown, fun w hw => hts w (List.mem_filter.mp hw).1⟩
  have hRel0 := hRel
  obtain ⟨r, σ1, σ2, e1, k1, e2, hRel2⟩ := (hO.2.2.2.2.2.2.2.2.2.2.2.2.2.2.2.2.2.1 (xs (x4 + 1).toNatClampNeg) (xs (x4 + 2).toNatClampNeg) (xs (x4 + 3).toNatClampNeg)) σ hRel
  refine lv_aload_n hx hb dL_law_856 rfl (lv_at hl 1 rfl) ?_
  refine lv_aload_n hx hb dL_law_857 rfl (lv_at hl 0 rfl) ?_
  refine lv_iload hx hb dL_law_858 (lv_at hl 4 rfl) ?_
  refine lv_iconst (v := 1) hx hb dL_law_860 (by decide) ?_
  refine lv_iadd hx hb dL_law_861 ?_
  refine va_sld hx hb hX hbl hbA hM.2.2.1 hi1 dL_law_862 ?_
  refine lv_aload_n hx hb dL_law_863 rfl (lv_at hl 0 rfl) ?_
  refine lv_iload hx hb dL_law_864 (lv_at hl 4 rfl) ?_
  refine lv_iconst (v := 2) hx hb dL_law_866 (by decide) ?_
  refine lv_iadd hx hb dL_law_867 ?_
  refine va_sld hx hb hX hbl hbA hM.2.2.1 hi2 dL_law_868 ?_
  refine lv_aload_n hx hb dL_law_869 rfl (lv_at hl 0 rfl) ?_
  refine lv_iload hx hb dL_law_870 (lv_at hl 4 rfl) ?_
  refine lv_iconst (v := 3) hx hb dL_law_872 (by decide) ?_
  refine lv_iadd hx hb dL_law_873 ?_
  refine va_sld hx hb hX hbl hbA hM.2.2.1 hi3 dL_law_874 ?_
  refine callVg_I (As := [.int (xs (x4 + 1).toNatClampNeg), .int (xs (x4 + 2).toNatClampNeg), .int (xs (x4 + 3).toNatClampNeg)]) ⟨by show _ ≤ 601024; omega, by show _ ≤ 7293034; omega⟩ (hO.1 _ hRel) (by decide) rfl mlL_112 wiL_X8_span wsL_X8_span rfl wnL_X8 wcL_X8_span hdL_X8_span hC hG.1 hM (cX8_span_ok e1) ⟨by decide, by decide⟩ hl.1 (Nat.le_of_ble_eq_true rfl) dL_law_875 rfl (fun H locs hM => ?_)
  refine lv_aload_n hx hb dL_law_878 rfl (lv_at hl 2 rfl) ?_
  refine lv_aload_n hx hb dL_law_879 rfl (lv_at hl 0 rfl) ?_
  refine lv_iload hx hb dL_law_880 (lv_at hl 4 rfl) ?_
  refine lv_iconst (v := 1) hx hb dL_law_882 (by decide) ?_
  refine lv_iadd hx hb dL_law_883 ?_
  refine va_sld hx hb hX hbl hbA hM.2.2.1 hi1 dL_law_884 ?_
  refine lv_aload_n hx hb dL_law_885 rfl (lv_at hl 0 rfl) ?_
  refine lv_iload hx hb dL_law_886 (lv_at hl 4 rfl) ?_
  refine lv_iconst (v := 2) hx hb dL_law_888 (by decide) ?_
  refine lv_iadd hx hb dL_law_889 ?_
  refine va_sld hx hb hX hbl hbA hM.2.2.1 hi2 dL_law_890 ?_
  refine lv_aload_n hx hb dL_law_891 rfl (lv_at hl 0 rfl) ?_
  refine lv_iload hx hb dL_law_892 (lv_at hl 4 rfl) ?_
  refine lv_iconst (v := 3) hx hb dL_law_894 (by decide) ?_
  refine lv_iadd hx hb dL_law_895 ?_
  refine va_sld hx hb hX hbl hbA hM.2.2.1 hi3 dL_law_896 ?_
  refine callVg_I (As := [.int (xs (x4 + 1).toNatClampNeg), .int (xs (x4 + 2).toNatClampNeg), .int (xs (x4 + 3).toNatClampNeg)]) ⟨by show _ ≤ 601024; omega, by show _ ≤ 7293034; omega⟩ k1 (by decide) rfl mlL_116 wiL_X9_span wsL_X9_span rfl wnL_X9 wcL_X9_span hdL_X9_span hC hG.1 hM (cX9_span_ok e2) ⟨by decide, by decide⟩ hl.1 (Nat.le_of_ble_eq_true rfl) dL_law_897 rfl (fun H locs hM => ?_)
  refine lv_icmp_eq (tgt := 1025) hx hb dL_law_900 (by decide) (fun _ => ?_) (fun c0 => absurd rfl c0)
  exact hnext _ _ _ _ _ _ _ (Nat.le_succ _) (Nat.le_add_right _ 6) hRel2 hM (lv_sub hl [0, 1, 2, 3, 4] rfl)
theorem mlL_117 : Cond.methodLink RL 117 yL_above ∈ WALL := WALL_of (List.mem_of_getElem? (i := 748) (by decide +kernel)) (by decide +kernel)
theorem hdL_L_above : yL_above.cls ≠ "java/lang/invoke/MethodHandle" ∧ yL_above.cls ≠ "java/lang/invoke/VarHandle" ∧ (parseMethodDescriptor yL_above.desc).map (fun d => d.parameters.length) = some 5 := by decide +kernel
theorem wcL_L_above : Cond.codeWith yL_above cL_above 6 (some .int) [(0, 11, 14, 13)] ∈ WALL := WALL_of (by decide +kernel) (by decide +kernel)
theorem wtL_L_above : Cond.static yL_above ∈ WALL := WALL_of (List.mem_of_getElem? (i := 749) (by decide +kernel)) (by decide +kernel)
theorem mlL_120 : Cond.methodLink RL 120 yX9_above ∈ WALL := WALL_of (List.mem_of_getElem? (i := 1116) (by decide +kernel)) (by decide +kernel)
theorem hdL_X9_above : yX9_above.cls ≠ "java/lang/invoke/MethodHandle" ∧ yX9_above.cls ≠ "java/lang/invoke/VarHandle" ∧ (parseMethodDescriptor yX9_above.desc).map (fun d => d.parameters.length) = some 3 := by decide +kernel
theorem wcL_X9_above : Cond.code yX9_above cX9_above 14 (some .long) ∈ WALL := WALL_of (List.mem_of_getElem? (i := 1119) (by decide +kernel)) (by decide +kernel)
theorem wiL_X9_above : Cond.instanceMethod yX9_above ∈ WALL := WALL_of (List.mem_of_getElem? (i := 1117) (by decide +kernel)) (by decide +kernel)
theorem wsL_X9_above : Cond.selects RX9 yX9_above yX9_above ∈ WALL := WALL_of (List.mem_of_getElem? (i := 1118) (by decide +kernel)) (by decide +kernel)
set_option maxRecDepth 20000 in
theorem law_c17 {p : Program} {l : Launch} {e : Env} {s : State} {m : MethodId} {below : List Frame} {meth : Method} {c : Code} {D : va_G} {cy : Nat → ClassId} {b L : Nat} {xs : Nat → Int32} {Rel : Mem → Prop} {ad : Nat → Nat} (C0 : lw_At p s m meth c b L xs) (hls : l.stackTraces = false) (hG : GX D cy (fun q : Nat => s.heap.size ≤ q) s) (hO : OPS Rel) {x4 : Int32} (hi1 : vp_in (x4 + 1) L) (hi2 : vp_in (x4 + 2) L) (hi3 : vp_in (x4 + 3) L) (hi4 : vp_in (x4 + 4) L) (hi5 : vp_in (x4 + 5) L) {z cells slots : Nat} {σ : Mem} {H : Heap} {locs : List Loc} {ls : Array Slot} (hcs : cells + 1 ≤ 601024 ∧ slots + 6 ≤ 7293034) (hRel : Rel σ) (hM : MS D cy ad (fun q : Nat => s.heap.size ≤ q) s.heap z σ H locs) (hl : lv_has ls 8 [(0, .ref b), (1, .ref (ad 0)), (2, .ref (ad 304)), (3, .ref (ad 330)), (4, .int x4)]) (hnext : ∀ (z cells' slots' : Nat) (τ : Mem) (H : Heap) (locs : List Loc) (ls : Array Slot), cells' ≤ cells + 1 → slots' ≤ slots + 6 → Rel τ → MS D cy ad (fun q : Nat => s.heap.size ≤ q) s.heap z τ H locs → lv_has ls 8 [(0, .ref b), (1, .ref (ad 0)), (2, .ref (ad 304)), (3, .ref (ad 330)), (4, .int x4)] → W p l e room_1 s m #[Value.ref b] below meth c H locs cells' slots' (lw_Z below #[Value.ref b] s) (F0 m 1025 ls [])) : W p l e room_1 s m #[Value.ref b] below meth c H locs cells slots (lw_Z below #[Value.ref b] s) (F0 m 905 ls []) := by
  obtain ⟨hx, hb, hr, hml, hown, hts, hX, hbl, hlocks, hgv⟩ := id C0
  have hbA : ¬ (fun q : Nat => s.heap.size ≤ q) b := Nat.not_le.mpr hbl
  have hC : CallFix p m c cL_law 8 s #[Value.ref b] WALL RL := ⟨hx, hb, hml, hown, fun w hw => hts w (List.mem_filter.mp hw).1⟩
  have hRel0 := hRel
  by_cases c_f : xs (x4 + 3).toNatClampNeg = 0
  · skip
    obtain ⟨r, σ1, b0, σ2, e1, ko1, lo1, k1, e2, k2, ht, ko2, lo2, hv, hRel2⟩ := (hO.2.2.2.2.2.2.2.2.2.2.2.2.2.2.2.2.2.2.1 (xs (x4 + 1).toNatClampNeg) (xs (x4 + 2).toNatClampNeg) 0) σ hRel
    skip
    refine lv_aload_n hx hb dL_law_905 rfl (lv_at hl 1 rfl) ?_
    refine lv_aload_n hx hb dL_law_906 rfl (lv_at hl 0 rfl) ?_
    refine lv_iload hx hb dL_law_907 (lv_at hl 4 rfl) ?_
    refine lv_iconst (v := 1) hx hb dL_law_909 (by decide) ?_
    refine lv_iadd hx hb dL_law_910 ?_
    refine va_sld hx hb hX hbl hbA hM.2.2.1 hi1 dL_law_911 ?_
    refine lv_aload_n hx hb dL_law_912 rfl (lv_at hl 0 rfl) ?_
    refine lv_iload hx hb dL_law_913 (lv_at hl 4 rfl) ?_
    refine lv_iconst (v := 2) hx hb dL_law_915 (by decide) ?_
    refine lv_iadd hx hb dL_law_916 ?_
    refine va_sld hx hb hX hbl hbA hM.2.2.1 hi2 dL_law_917 ?_
    refine lv_aload_n hx hb dL_law_918 rfl (lv_at hl 0 rfl) ?_
    refine lv_iload hx hb dL_law_919 (lv_at hl 4 rfl) ?_
    refine lv_iconst (v := 3) hx hb dL_law_921 (by decide) ?_
    refine lv_iadd hx hb dL_law_922 ?_
    refine va_sld hx hb hX hbl hbA hM.2.2.1 hi3 dL_law_923 ?_
    refine lv_if_eq (tgt := 931) hx hb dL_law_924 (by decide) (fun _ => ?_) (fun c0 => absurd c_f c0)
    refine lv_iconst (v := 0) hx hb dL_law_931 (by decide) ?_
    refine lv_aload_n hx hb dL_law_932 rfl (lv_at hl 3 rfl) ?_
    refine callH (As := [.ref (ad 0), .int (xs (x4 + 1).toNatClampNeg), .int (xs (x4 + 2).toNatClampNeg), .int 0, .ref (ad 330)]) hcs mlL_117 wtL_L_above wnL_L wcL_L_above hdL_L_above hC hG hM (cL_above_ok hls (hO.1 _ hRel0) e1 ko1 lo1) ⟨by decide, by decide⟩ hl.1 (Nat.le_of_ble_eq_true rfl) dL_law_933 rfl (fun z H locs hM => ?_)
    refine lv_istore (lv' := [(5, .int (kof r)), (0, .ref b), (1, .ref (ad 0)), (2, .ref (ad 304)), (3, .ref (ad 330)), (4, .int x4)]) hx hb dL_law_936 hl (by decide) rfl (fun ls hl => ?_)
    refine lv_aload_n hx hb dL_law_938 rfl (lv_at hl 3 rfl) ?_
    refine lv_aload_n hx hb dL_law_939 rfl (lv_at hl 1 rfl) ?_
    refine lv_iload hx hb dL_law_940 (lv_at hl 5 rfl) ?_
    refine lv_iconst (v := 1) hx hb dL_law_942 (by decide) ?_
    refine lv_iadd hx hb dL_law_943 ?_
    refine va_sld hx hb hX hbl hbA hM.2.2.1 hi1 dL_law_944 ?_
    refine lv_aload_n hx hb dL_law_945 rfl (lv_at hl 1 rfl) ?_
    refine lv_iload hx hb dL_law_946 (lv_at hl 5 rfl) ?_
    refine lv_iconst (v := 2) hx hb dL_law_948 (by decide) ?_
    refine lv_iadd hx hb dL_law_949 ?_
    refine va_sld hx hb hX hbl hbA hM.2.2.1 hi2 dL_law_950 ?_
    refine lv_aload_n hx hb dL_law_951 rfl (lv_at hl 1 rfl) ?_
    refine lv_iload hx hb dL_law_952 (lv_at hl 5 rfl) ?_
    refine lv_iconst (v := 3) hx hb dL_law_954 (by decide) ?_
    refine lv_iadd hx hb dL_law_955 ?_
    refine va_sld hx hb hX hbl hbA hM.2.2.1 hi3 dL_law_956 ?_
    refine lv_if_eq (tgt := 964) hx hb dL_law_957 (by decide) (fun _ => ?_) (fun c0 => absurd c_f c0)
    refine lv_iconst (v := 0) hx hb dL_law_964 (by decide) ?_
    refine callVg_L (As := [.int (xs (x4 + 1).toNatClampNeg), .int (xs (x4 + 2).toNatClampNeg), .int 0]) ⟨by show _ ≤ 601024; omega, by show _ ≤ 7293034; omega⟩ k1 (by decide) rfl mlL_120 wiL_X9_above wsL_X9_above rfl wnL_X9 wcL_X9_above hdL_X9_above hC hG.1 hM (cX9_above_ok e2) ⟨by decide, by decide⟩ hl.1 (Nat.le_of_ble_eq_true rfl) dL_law_965 rfl (fun H locs hM => ?_)
    refine lv_lstore (lv' := [(6, .long b0), (5, .int (kof r)), (0, .ref b), (1, .ref (ad 0)), (2, .ref (ad 304)), (3, .ref (ad 330)), (4, .int x4)]) hx hb dL_law_968 hl (by decide) rfl (fun ls hl => ?_)
    refine lv_aload_n hx hb dL_law_970 rfl (lv_at hl 4 rfl) ?_
    refine callVg_I (As := []) ⟨by show _ ≤ 601024; omega, by show _ ≤ 7293034; omega⟩ k2 (by decide) rfl mlL_60 wiL_X9_thrown wsL_X9_thrown rfl wnL_X9 wcL_X9_thrown hdL_X9_thrown hC hG.1 hM (cX9_thrown_ok (thrown_ok k2 ht)) ⟨by decide, by decide⟩ hl.1 (Nat.le_of_ble_eq_true rfl) dL_law_971 rfl (fun H locs hM => ?_)
    refine lv_iload hx hb dL_law_974 (lv_at hl 1 rfl) ?_
    refine lv_icmp_eq (tgt := 981) hx hb dL_law_976 (by decide) (fun _ => ?_) (fun c0 => absurd rfl c0)
    refine lv_iload hx hb dL_law_981 (lv_at hl 1 rfl) ?_
    refine lv_if_ne (tgt := 997) hx hb dL_law_983 (by decide) (fun c_k => ?_) (fun c_k => ?_)
    · skip
      refine lv_goto (tgt := 1025) hx hb dL_law_997 (by decide) ?_
      exact hnext _ _ _ _ _ _ _ (Nat.le_refl _) (Nat.le_refl _) hRel2 hM (lv_sub hl [2, 3, 4, 5, 6] rfl)
    · skip
      refine lv_aload_n hx hb dL_law_986 rfl (lv_at hl 5 rfl) ?_
      refine lv_iconst (v := 0) hx hb dL_law_987 (by decide) ?_
      refine g_lald (v := some 330) hx hb hG.1 hM (aJ_out ko2 lo2 (hv c_k)) dL_law_988 ?_
      refine lv_lload hx hb dL_law_989 (lv_at hl 0 rfl) ?_
      refine lc_eq (tgt := 997) hx hb dL_law_991 dL_law_992 (by decide) (fun _ => ?_) (fun c0 => absurd rfl c0)
      refine lv_goto (tgt := 1025) hx hb dL_law_997 (by decide) ?_
      exact hnext _ _ _ _ _ _ _ (Nat.le_refl _) (Nat.le_refl _) hRel2 hM (lv_sub hl [2, 3, 4, 5, 6] rfl)
  · skip
    obtain ⟨r, σ1, b0, σ2, e1, ko1, lo1, k1, e2, k2, ht, ko2, lo2, hv, hRel2⟩ := (hO.2.2.2.2.2.2.2.2.2.2.2.2.2.2.2.2.2.2.1 (xs (x4 + 1).toNatClampNeg) (xs (x4 + 2).toNatClampNeg) 1) σ hRel
    skip
    refine lv_aload_n hx hb dL_law_905 rfl (lv_at hl 1 rfl) ?_
    refine lv_aload_n hx hb dL_law_906 rfl (lv_at hl 0 rfl) ?_
    refine lv_iload hx hb dL_law_907 (lv_at hl 4 rfl) ?_
    refine lv_iconst (v := 1) hx hb dL_law_909 (by decide) ?_
    refine lv_iadd hx hb dL_law_910 ?_
    refine va_sld hx hb hX hbl hbA hM.2.2.1 hi1 dL_law_911 ?_
    refine lv_aload_n hx hb dL_law_912 rfl (lv_at hl 0 rfl) ?_
    refine lv_iload hx hb dL_law_913 (lv_at hl 4 rfl) ?_
    refine lv_iconst (v := 2) hx hb dL_law_915 (by decide) ?_
    refine lv_iadd hx hb dL_law_916 ?_
    refine va_sld hx hb hX hbl hbA hM.2.2.1 hi2 dL_law_917 ?_
    refine lv_aload_n hx hb dL_law_918 rfl (lv_at hl 0 rfl) ?_
    refine lv_iload hx hb dL_law_919 (lv_at hl 4 rfl) ?_
    refine lv_iconst (v := 3) hx hb dL_law_921 (by decide) ?_
    refine lv_iadd hx hb dL_law_922 ?_
    refine va_sld hx hb hX hbl hbA hM.2.2.1 hi3 dL_law_923 ?_
    refine lv_if_eq (tgt := 931) hx hb dL_law_924 (by decide) (fun c0 => absurd c0 c_f) (fun _ => ?_)
    refine lv_iconst (v := 1) hx hb dL_law_927 (by decide) ?_
    refine lv_goto (tgt := 932) hx hb dL_law_928 (by decide) ?_
    refine lv_aload_n hx hb dL_law_932 rfl (lv_at hl 3 rfl) ?_
    refine callH (As := [.ref (ad 0), .int (xs (x4 + 1).toNatClampNeg), .int (xs (x4 + 2).toNatClampNeg), .int 1, .ref (ad 330)]) hcs mlL_117 wtL_L_above wnL_L wcL_L_above hdL_L_above hC hG hM (cL_above_ok hls (hO.1 _ hRel0) e1 ko1 lo1) ⟨by decide, by decide⟩ hl.1 (Nat.le_of_ble_eq_true rfl) dL_law_933 rfl (fun z H locs hM => ?_)
    refine lv_istore (lv' := [(5, .int (kof r)), (0, .ref b), (1, .ref (ad 0)), (2, .ref (ad 304)), (3, .ref (ad 330)), (4, .int x4)]) hx hb dL_law_936 hl (by decide) rfl (fun ls hl => ?_)
    refine lv_aload_n hx hb dL_law_938 rfl (lv_at hl 3 rfl) ?_
    refine lv_aload_n hx hb dL_law_939 rfl (lv_at hl 1 rfl) ?_
    refine lv_iload hx hb dL_law_940 (lv_at hl 5 rfl) ?_
    refine lv_iconst (v := 1) hx hb dL_law_942 (by decide) ?_
    refine lv_iadd hx hb dL_law_943 ?_
    refine va_sld hx hb hX hbl hbA hM.2.2.1 hi1 dL_law_944 ?_
    refine lv_aload_n hx hb dL_law_945 rfl (lv_at hl 1 rfl) ?_
    refine lv_iload hx hb dL_law_946 (lv_at hl 5 rfl) ?_
    refine lv_iconst (v := 2) hx hb dL_law_948 (by decide) ?_
    refine lv_iadd hx hb dL_law_949 ?_
    refine va_sld hx hb hX hbl hbA hM.2.2.1 hi2 dL_law_950 ?_
    refine lv_aload_n hx hb dL_law_951 rfl (lv_at hl 1 rfl) ?_
    refine lv_iload hx hb dL_law_952 (lv_at hl 5 rfl) ?_
    refine lv_iconst (v := 3) hx hb dL_law_954 (by decide) ?_
    refine lv_iadd hx hb dL_law_955 ?_
    refine va_sld hx hb hX hbl hbA hM.2.2.1 hi3 dL_law_956 ?_
    refine lv_if_eq (tgt := 964) hx hb dL_law_957 (by decide) (fun c0 => absurd c0 c_f) (fun _ => ?_)
    refine lv_iconst (v := 1) hx hb dL_law_960 (by decide) ?_
    refine lv_goto (tgt := 965) hx hb dL_law_961 (by decide) ?_
    refine callVg_L (As := [.int (xs (x4 + 1).toNatClampNeg), .int (xs (x4 + 2).toNatClampNeg), .int 1]) ⟨by show _ ≤ 601024; omega, by show _ ≤ 7293034; omega⟩ k1 (by decide) rfl mlL_120 wiL_X9_above wsL_X9_above rfl wnL_X9 wcL_X9_above hdL_X9_above hC hG.1 hM (cX9_above_ok e2) ⟨by decide, by decide⟩ hl.1 (Nat.le_of_ble_eq_true rfl) dL_law_965 rfl (fun H locs hM => ?_)
    refine lv_lstore (lv' := [(6, .long b0), (5, .int (kof r)), (0, .ref b), (1, .ref (ad 0)), (2, .ref (ad 304)), (3, .ref (ad 330)), (4, .int x4)]) hx hb dL_law_968 hl (by decide) rfl (fun ls hl => ?_)
    refine lv_aload_n hx hb dL_law_970 rfl (lv_at hl 4 rfl) ?_
    refine callVg_I (As := []) ⟨by show _ ≤ 601024; omega, by show _ ≤ 7293034; omega⟩ k2 (by decide) rfl mlL_60 wiL_X9_thrown wsL_X9_thrown rfl wnL_X9 wcL_X9_thrown hdL_X9_thrown hC hG.1 hM (cX9_thrown_ok (thrown_ok k2 ht)) ⟨by decide, by decide⟩ hl.1 (Nat.le_of_ble_eq_true rfl) dL_law_971 rfl (fun H locs hM => ?_)
    refine lv_iload hx hb dL_law_974 (lv_at hl 1 rfl) ?_
    refine lv_icmp_eq (tgt := 981) hx hb dL_law_976 (by decide) (fun _ => ?_) (fun c0 => absurd rfl c0)
    refine lv_iload hx hb dL_law_981 (lv_at hl 1 rfl) ?_
    refine lv_if_ne (tgt := 997) hx hb dL_law_983 (by decide) (fun c_k => ?_) (fun c_k => ?_)
    · skip
      refine lv_goto (tgt := 1025) hx hb dL_law_997 (by decide) ?_
      exact hnext _ _ _ _ _ _ _ (Nat.le_refl _) (Nat.le_refl _) hRel2 hM (lv_sub hl [2, 3, 4, 5, 6] rfl)
    · skip
      refine lv_aload_n hx hb dL_law_986 rfl (lv_at hl 5 rfl) ?_
      refine lv_iconst (v := 0) hx hb dL_law_987 (by decide) ?_
      refine g_lald (v := some 330) hx hb hG.1 hM (aJ_out ko2 lo2 (hv c_k)) dL_law_988 ?_
      refine lv_lload hx hb dL_law_989 (lv_at hl 0 rfl) ?_
      refine lc_eq (tgt := 997) hx hb dL_law_991 dL_law_992 (by decide) (fun _ => ?_) (fun c0 => absurd rfl c0)
      refine lv_goto (tgt := 1025) hx hb dL_law_997 (by decide) ?_
      exact hnext _ _ _ _ _ _ _ (Nat.le_refl _) (Nat.le_refl _) hRel2 hM (lv_sub hl [2, 3, 4, 5, 6] rfl)
theorem mlL_121 : Cond.methodLink RL 121 yX8_count ∈ WALL := WALL_of (List.mem_of_getElem? (i := 647) (by decide +kernel)) (by decide +kernel)
theorem hdL_X8_count : yX8_count.cls ≠ "java/lang/invoke/MethodHandle" ∧ yX8_count.cls ≠ "java/lang/invoke/VarHandle" ∧ (parseMethodDescriptor yX8_count.desc).map (fun d => d.parameters.length) = some 1 := by decide +kernel
theorem wcL_X8_count : Cond.code yX8_count cX8_count 2 (some .int) ∈ WALL := WALL_of (List.mem_of_getElem? (i := 650) (by decide +kernel)) (by decide +kernel)
theorem wiL_X8_count : Cond.instanceMethod yX8_count ∈ WALL := WALL_of (List.mem_of_getElem? (i := 648) (by decide +kernel)) (by decide +kernel)
theorem wsL_X8_count : Cond.selects RX8 yX8_count yX8_count ∈ WALL := WALL_of (List.mem_of_getElem? (i := 649) (by decide +kernel)) (by decide +kernel)
theorem mlL_124 : Cond.methodLink RL 124 yX9_count ∈ WALL := WALL_of (List.mem_of_getElem? (i := 1120) (by decide +kernel)) (by decide +kernel)
theorem hdL_X9_count : yX9_count.cls ≠ "java/lang/invoke/MethodHandle" ∧ yX9_count.cls ≠ "java/lang/invoke/VarHandle" ∧ (parseMethodDescriptor yX9_count.desc).map (fun d => d.parameters.length) = some 1 := by decide +kernel
theorem wcL_X9_count : Cond.code yX9_count cX9_count 2 (some .int) ∈ WALL := WALL_of (List.mem_of_getElem? (i := 1123) (by decide +kernel)) (by decide +kernel)
theorem wiL_X9_count : Cond.instanceMethod yX9_count ∈ WALL := WALL_of (List.mem_of_getElem? (i := 1121) (by decide +kernel)) (by decide +kernel)
theorem wsL_X9_count : Cond.selects RX9 yX9_count yX9_count ∈ WALL := WALL_of (List.mem_of_getElem? (i := 1122) (by decide +kernel)) (by decide +kernel)
set_option maxRecDepth 20000 in
theorem law_c18 {p : Program} {l : Launch} {e : Env} {s : State} {m : MethodId} {below : List Frame} {meth : Method} {c : Code} {D : va_G} {cy : Nat → ClassId} {b L : Nat} {xs : Nat → Int32} {Rel : Mem → Prop} {ad : Nat → Nat} (C0 : lw_At p s m meth c b L xs) (hls : l.stackTraces = false) (hG : GX D cy (fun q : Nat => s.heap.size ≤ q) s) (hO : OPS Rel) {x4 : Int32} (hi1 : vp_in (x4 + 1) L) (hi2 : vp_in (x4 + 2) L) (hi3 : vp_in (x4 + 3) L) (hi4 : vp_in (x4 + 4) L) (hi5 : vp_in (x4 + 5) L) {z cells slots : Nat} {σ : Mem} {H : Heap} {locs : List Loc} {ls : Array Slot} (hcs : cells + 1 ≤ 601024 ∧ slots + 6 ≤ 7293034) (hRel : Rel σ) (hM : MS D cy ad (fun q : Nat => s.heap.size ≤ q) s.heap z σ H locs) (hl : lv_has ls 8 [(0, .ref b), (1, .ref (ad 0)), (2, .ref (ad 304)), (3, .ref (ad 330)), (4, .int x4)]) (hnext : ∀ (z cells' slots' : Nat) (τ : Mem) (H : Heap) (locs : List Loc) (ls : Array Slot), cells' ≤ cells + 1 → slots' ≤ slots + 6 → Rel τ → MS D cy ad (fun q : Nat => s.heap.size ≤ q) s.heap z τ H locs → lv_has ls 8 [(0, .ref b), (1, .ref (ad 0)), (2, .ref (ad 304)), (3, .ref (ad 330)), (4, .int x4)] → W p l e room_1 s m #[Value.ref b] below meth c H locs cells' slots' (lw_Z below #[Value.ref b] s) (F0 m 1025 ls [])) : W p l e room_1 s m #[Value.ref b] below meth c H locs cells slots (lw_Z below #[Value.ref b] s) (F0 m 1000 ls []) := by
  obtain ⟨hx, hb, hr, hml, hown, hts, hX, hbl, hlocks, hgv⟩ := id C0
  have hbA : ¬ (fun q : Nat => s.heap.size ≤ q) b := Nat.not_le.mpr hbl
  have hC : CallFix p m c cL_law 8 s #[Value.ref b] WALL RL := ⟨hx, hb, hml, hown, fun w hw => hts w (List.mem_filter.mp hw).1⟩
  have hRel0 := hRel
  obtain ⟨r, σ1, σ2, e1, k1, e2, hRel2⟩ := (hO.2.2.2.2.2.2.2.2.2.2.2.2.2.2.2.2.2.2.2 (xs (x4 + 1).toNatClampNeg)) σ hRel
  refine lv_aload_n hx hb dL_law_1000 rfl (lv_at hl 1 rfl) ?_
  refine lv_aload_n hx hb dL_law_1001 rfl (lv_at hl 0 rfl) ?_
  refine lv_iload hx hb dL_law_1002 (lv_at hl 4 rfl) ?_
  refine lv_iconst (v := 1) hx hb dL_law_1004 (by decide) ?_
  refine lv_iadd hx hb dL_law_1005 ?_
  refine va_sld hx hb hX hbl hbA hM.2.2.1 hi1 dL_law_1006 ?_
  refine callVg_I (As := [.int (xs (x4 + 1).toNatClampNeg)]) ⟨by show _ ≤ 601024; omega, by show _ ≤ 7293034; omega⟩ (hO.1 _ hRel) (by decide) rfl mlL_121 wiL_X8_count wsL_X8_count rfl wnL_X8 wcL_X8_count hdL_X8_count hC hG.1 hM (cX8_count_ok e1) ⟨by decide, by decide⟩ hl.1 (Nat.le_of_ble_eq_true rfl) dL_law_1007 rfl (fun H locs hM => ?_)
  refine lv_aload_n hx hb dL_law_1010 rfl (lv_at hl 2 rfl) ?_
  refine lv_aload_n hx hb dL_law_1011 rfl (lv_at hl 0 rfl) ?_
  refine lv_iload hx hb dL_law_1012 (lv_at hl 4 rfl) ?_
  refine lv_iconst (v := 1) hx hb dL_law_1014 (by decide) ?_
  refine lv_iadd hx hb dL_law_1015 ?_
  refine va_sld hx hb hX hbl hbA hM.2.2.1 hi1 dL_law_1016 ?_
  refine callVg_I (As := [.int (xs (x4 + 1).toNatClampNeg)]) ⟨by show _ ≤ 601024; omega, by show _ ≤ 7293034; omega⟩ k1 (by decide) rfl mlL_124 wiL_X9_count wsL_X9_count rfl wnL_X9 wcL_X9_count hdL_X9_count hC hG.1 hM (cX9_count_ok e2) ⟨by decide, by decide⟩ hl.1 (Nat.le_of_ble_eq_true rfl) dL_law_1017 rfl (fun H locs hM => ?_)
  refine lv_icmp_eq (tgt := 1025) hx hb dL_law_1020 (by decide) (fun _ => ?_) (fun c0 => absurd rfl c0)
  exact hnext _ _ _ _ _ _ _ (Nat.le_succ _) (Nat.le_add_right _ 6) hRel2 hM (lv_sub hl [0, 1, 2, 3, 4] rfl)
