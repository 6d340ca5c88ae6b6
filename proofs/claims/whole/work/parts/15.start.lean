theorem law_i {L i k : Nat} {x4 : Int32} (hL : L ≤ 3072) (hi : i + 6 ≤ L) (ex4 : x4 = nI i) (hk : k < 6) {y : Int32} (hy : y = nI k) : vp_in (x4 + y) L := by
  rw [ex4, hy, nI_add]
  exact vp_in_nI (by omega) (by omega)
theorem law_go {L i : Nat} {x4 : Int32} (hL : L ≤ 3072) (hi : i ≤ L + 6) (ex4 : x4 = nI i) (h : ¬ nI L - 6 < x4) : i + 6 ≤ L := by
  rw [ex4, Int32.lt_iff_toInt_lt, show (6 : Int32) = nI 6 from rfl, pk_sub_toInt (by omega) (by omega), nI_toInt (by omega)] at h
  omega
set_option maxRecDepth 20000 in
set_option maxHeartbeats 4000000 in
theorem law_loop {p : Program} {l : Launch} {e : Env} {s : State} {m : MethodId} {below : List Frame} {meth : Method} {c : Code} {D : va_G} {cy : Nat → ClassId} {b L : Nat} {xs : Nat → Int32} {Rel : Mem → Prop} {ad : Nat → Nat} (hL : L ≤ 3072) (C0 : lw_At p s m meth c b L xs) (hls : l.stackTraces = false) (hG : GX D cy (fun q : Nat => s.heap.size ≤ q) s) (hO : OPS Rel) :
    ∀ (n i : Nat) (x4 : Int32) (z cells slots : Nat) (σ : Mem) (H : Heap) (locs : List Loc) (ls : Array Slot), i ≤ L + 6 → L + 6 < i + 6 * n → x4 = nI i → cells ≤ 400 + i → slots ≤ 20000 + i → Rel σ → MS D cy ad (fun q : Nat => s.heap.size ≤ q) s.heap z σ H locs → lv_has ls 8 [(0, .ref b), (1, .ref (ad 0)), (2, .ref (ad 304)), (3, .ref (ad 330)), (4, .int x4)] → W p l e room_1 s m #[Value.ref b] below meth c H locs cells slots (lw_Z below #[Value.ref b] s) (F0 m 23 ls []) := by
  obtain ⟨hx, hb, hr, hml, hown, hts, hX, hbl, hlocks, hgv⟩ := id C0
  have hbA : ¬ (fun q : Nat => s.heap.size ≤ q) b := Nat.not_le.mpr hbl
  intro n
  induction n with
  | zero =>
    intro i x4 z cells slots σ H locs ls h1 h2
    exact absurd h2 (by omega)
  | succ n ih =>
    intro i x4 z cells slots σ H locs ls hi hin ex4 hc hs hRel hM hl
    refine lv_iload hx hb dL_law_23 (lv_at hl 4 rfl) ?_
    refine lv_aload_n hx hb dL_law_25 rfl (lv_at hl 0 rfl) ?_
    refine va_slen hx hb hX hbl hbA hM.2.2.1 dL_law_26 ?_
    refine lv_bipush (v := 6) hx hb dL_law_27 (by decide) ?_
    refine lv_isub hx hb dL_law_29 ?_
    refine lv_icmp_gt (tgt := 1031) hx hb dL_law_30 (by decide) (fun c_10 => ?_) (fun c_10 => ?_)
    · refine lv_iconst (v := 1) hx hb dL_law_1031 (by decide) ?_
      refine va_forget (fun q hq => hM.2.2.1.2.2 q hq) ?_
      refine W.widen (k := 601024) (n := 7293034) (by omega) (by omega) ?_
      exact lw_ret hx hb hr hlocks dL_law_1032
    · have hgo : i + 6 ≤ L := law_go hL hi ex4 c_10
      have hi0 : vp_in x4 L := by rw [ex4]; exact vp_in_nI (by omega) (by omega)
      have hi1 : vp_in (x4 + 1) L := law_i (k := 1) hL hgo ex4 (by decide) rfl
      have hi2 : vp_in (x4 + 2) L := law_i (k := 2) hL hgo ex4 (by decide) rfl
      have hi3 : vp_in (x4 + 3) L := law_i (k := 3) hL hgo ex4 (by decide) rfl
      have hi4 : vp_in (x4 + 4) L := law_i (k := 4) hL hgo ex4 (by decide) rfl
      have hi5 : vp_in (x4 + 5) L := law_i (k := 5) hL hgo ex4 (by decide) rfl
      have hnext : ∀ (z cells' slots' : Nat) (τ : Mem) (H : Heap) (locs : List Loc) (ls : Array Slot), cells' ≤ cells + 1 → slots' ≤ slots + 6 → Rel τ → MS D cy ad (fun q : Nat => s.heap.size ≤ q) s.heap z τ H locs → lv_has ls 8 [(0, .ref b), (1, .ref (ad 0)), (2, .ref (ad 304)), (3, .ref (ad 330)), (4, .int x4)] → W p l e room_1 s m #[Value.ref b] below meth c H locs cells' slots' (lw_Z below #[Value.ref b] s) (F0 m 1025 ls []) := by
        intro z cells' slots' τ H locs ls hc' hs' hRel hM hl
        refine lv_iinc (v := nI (i + 6)) (lv' := [(4, .int (nI (i + 6))), (0, .ref b), (1, .ref (ad 0)), (2, .ref (ad 304)), (3, .ref (ad 330))]) hx hb dL_law_1025 hl (k := 4) rfl (by rw [ex4]; exact nI_add i 6) (by decide) rfl (fun ls hl => ?_)
        refine lv_goto (tgt := 23) hx hb dL_law_1028 (by decide) ?_
        exact ih (i + 6) _ _ _ _ _ _ _ _ (by omega) (by omega) rfl (by omega) (by omega) hRel hM (lv_sub hl [1, 2, 3, 4, 0] rfl)
      refine lv_aload_n hx hb dL_law_33 rfl (lv_at hl 0 rfl) ?_
      refine lv_iload hx hb dL_law_34 (lv_at hl 4 rfl) ?_
      refine va_sld hx hb hX hbl hbA hM.2.2.1 hi0 dL_law_36 ?_
      refine lv_bipush (v := 31) hx hb dL_law_37 (by decide) ?_
      refine lv_iand hx hb dL_law_39 ?_
      refine lv_topi (fun x9 ex9 => ?_)
      by_cases c0 : x9 = 0
      · refine lv_tableIn (tgt := 132) hx hb dL_law_40 (by rw [c0]; decide) (by rw [c0]; decide) (by rw [c0]; rfl) (by decide) ?_
        exact law_c0 C0 hls hG hO hi1 hi2 hi3 hi4 hi5 ⟨by omega, by omega⟩ hRel hM hl hnext
      by_cases c1 : x9 = 1
      · refine lv_tableIn (tgt := 205) hx hb dL_law_40 (by rw [c1]; decide) (by rw [c1]; decide) (by rw [c1]; rfl) (by decide) ?_
        exact law_c1 C0 hls hG hO hi1 hi2 hi3 hi4 hi5 ⟨by omega, by omega⟩ hRel hM hl hnext
      by_cases c2 : x9 = 2
      · refine lv_tableIn (tgt := 230) hx hb dL_law_40 (by rw [c2]; decide) (by rw [c2]; decide) (by rw [c2]; rfl) (by decide) ?_
        exact law_c2 C0 hls hG hO hi1 hi2 hi3 hi4 hi5 ⟨by omega, by omega⟩ hRel hM hl hnext
      by_cases c3 : x9 = 3
      · refine lv_tableIn (tgt := 243) hx hb dL_law_40 (by rw [c3]; decide) (by rw [c3]; decide) (by rw [c3]; rfl) (by decide) ?_
        exact law_c3 C0 hls hG hO hi1 hi2 hi3 hi4 hi5 ⟨by omega, by omega⟩ hRel hM hl hnext
      by_cases c4 : x9 = 4
      · refine lv_tableIn (tgt := 256) hx hb dL_law_40 (by rw [c4]; decide) (by rw [c4]; decide) (by rw [c4]; rfl) (by decide) ?_
        exact law_c4 C0 hls hG hO hi1 hi2 hi3 hi4 hi5 ⟨by omega, by omega⟩ hRel hM hl hnext
      by_cases c5 : x9 = 5
      · refine lv_tableIn (tgt := 324) hx hb dL_law_40 (by rw [c5]; decide) (by rw [c5]; decide) (by rw [c5]; rfl) (by decide) ?_
        exact law_c5 C0 hls hG hO hi1 hi2 hi3 hi4 hi5 ⟨by omega, by omega⟩ hRel hM hl hnext
      by_cases c6 : x9 = 6
      · refine lv_tableIn (tgt := 349) hx hb dL_law_40 (by rw [c6]; decide) (by rw [c6]; decide) (by rw [c6]; rfl) (by decide) ?_
        exact law_c6 C0 hls hG hO hi1 hi2 hi3 hi4 hi5 ⟨by omega, by omega⟩ hRel hM hl hnext
      by_cases c7 : x9 = 7
      · refine lv_tableIn (tgt := 405) hx hb dL_law_40 (by rw [c7]; decide) (by rw [c7]; decide) (by rw [c7]; rfl) (by decide) ?_
        exact law_c7 C0 hls hG hO hi1 hi2 hi3 hi4 hi5 ⟨by omega, by omega⟩ hRel hM hl hnext
      by_cases c8 : x9 = 8
      · refine lv_tableIn (tgt := 454) hx hb dL_law_40 (by rw [c8]; decide) (by rw [c8]; decide) (by rw [c8]; rfl) (by decide) ?_
        exact law_c8 C0 hls hG hO hi1 hi2 hi3 hi4 hi5 ⟨by omega, by omega⟩ hRel hM hl hnext
      by_cases c9 : x9 = 9
      · refine lv_tableIn (tgt := 503) hx hb dL_law_40 (by rw [c9]; decide) (by rw [c9]; decide) (by rw [c9]; rfl) (by decide) ?_
        exact law_c9 C0 hls hG hO hi1 hi2 hi3 hi4 hi5 ⟨by omega, by omega⟩ hRel hM hl hnext
      by_cases c10 : x9 = 10
      · refine lv_tableIn (tgt := 528) hx hb dL_law_40 (by rw [c10]; decide) (by rw [c10]; decide) (by rw [c10]; rfl) (by decide) ?_
        exact law_c10 C0 hls hG hO hi1 hi2 hi3 hi4 hi5 ⟨by omega, by omega⟩ hRel hM hl hnext
      by_cases c11 : x9 = 11
      · refine lv_tableIn (tgt := 619) hx hb dL_law_40 (by rw [c11]; decide) (by rw [c11]; decide) (by rw [c11]; rfl) (by decide) ?_
        exact law_c11 C0 hls hG hO hi1 hi2 hi3 hi4 hi5 ⟨by omega, by omega⟩ hRel hM hl hnext
      by_cases c12 : x9 = 12
      · refine lv_tableIn (tgt := 742) hx hb dL_law_40 (by rw [c12]; decide) (by rw [c12]; decide) (by rw [c12]; rfl) (by decide) ?_
        exact law_c12 C0 hls hG hO hi1 hi2 hi3 hi4 hi5 ⟨by omega, by omega⟩ hRel hM hl hnext
      by_cases c13 : x9 = 13
      · refine lv_tableIn (tgt := 792) hx hb dL_law_40 (by rw [c13]; decide) (by rw [c13]; decide) (by rw [c13]; rfl) (by decide) ?_
        exact law_c13 C0 hls hG hO hi1 hi2 hi3 hi4 hi5 ⟨by omega, by omega⟩ hRel hM hl hnext
      by_cases c14 : x9 = 14
      · refine lv_tableIn (tgt := 817) hx hb dL_law_40 (by rw [c14]; decide) (by rw [c14]; decide) (by rw [c14]; rfl) (by decide) ?_
        exact law_c14 C0 hls hG hO hi1 hi2 hi3 hi4 hi5 ⟨by omega, by omega⟩ hRel hM hl hnext
      by_cases c15 : x9 = 15
      · refine lv_tableIn (tgt := 831) hx hb dL_law_40 (by rw [c15]; decide) (by rw [c15]; decide) (by rw [c15]; rfl) (by decide) ?_
        exact law_c15 C0 hls hG hO hi1 hi2 hi3 hi4 hi5 ⟨by omega, by omega⟩ hRel hM hl hnext
      by_cases c16 : x9 = 16
      · refine lv_tableIn (tgt := 856) hx hb dL_law_40 (by rw [c16]; decide) (by rw [c16]; decide) (by rw [c16]; rfl) (by decide) ?_
        exact law_c16 C0 hls hG hO hi1 hi2 hi3 hi4 hi5 ⟨by omega, by omega⟩ hRel hM hl hnext
      by_cases c17 : x9 = 17
      · refine lv_tableIn (tgt := 905) hx hb dL_law_40 (by rw [c17]; decide) (by rw [c17]; decide) (by rw [c17]; rfl) (by decide) ?_
        exact law_c17 C0 hls hG hO hi1 hi2 hi3 hi4 hi5 ⟨by omega, by omega⟩ hRel hM hl hnext
      by_cases c18 : x9 = 18
      · refine lv_tableIn (tgt := 1000) hx hb dL_law_40 (by rw [c18]; decide) (by rw [c18]; decide) (by rw [c18]; rfl) (by decide) ?_
        exact law_c18 C0 hls hG hO hi1 hi2 hi3 hi4 hi5 ⟨by omega, by omega⟩ hRel hM hl hnext
      refine lv_tableOut (tgt := 1025) hx hb dL_law_40 (by have n0 := lv_neT c0 (show (0 : Int32).toInt = 0 from rfl); have n1 := lv_neT c1 (show (1 : Int32).toInt = 1 from rfl); have n2 := lv_neT c2 (show (2 : Int32).toInt = 2 from rfl); have n3 := lv_neT c3 (show (3 : Int32).toInt = 3 from rfl); have n4 := lv_neT c4 (show (4 : Int32).toInt = 4 from rfl); have n5 := lv_neT c5 (show (5 : Int32).toInt = 5 from rfl); have n6 := lv_neT c6 (show (6 : Int32).toInt = 6 from rfl); have n7 := lv_neT c7 (show (7 : Int32).toInt = 7 from rfl); have n8 := lv_neT c8 (show (8 : Int32).toInt = 8 from rfl); have n9 := lv_neT c9 (show (9 : Int32).toInt = 9 from rfl); have n10 := lv_neT c10 (show (10 : Int32).toInt = 10 from rfl); have n11 := lv_neT c11 (show (11 : Int32).toInt = 11 from rfl); have n12 := lv_neT c12 (show (12 : Int32).toInt = 12 from rfl); have n13 := lv_neT c13 (show (13 : Int32).toInt = 13 from rfl); have n14 := lv_neT c14 (show (14 : Int32).toInt = 14 from rfl); have n15 := lv_neT c15 (show (15 : Int32).toInt = 15 from rfl); have n16 := lv_neT c16 (show (16 : Int32).toInt = 16 from rfl); have n17 := lv_neT c17 (show (17 : Int32).toInt = 17 from rfl); have n18 := lv_neT c18 (show (18 : Int32).toInt = 18 from rfl); omega) (by decide) ?_
      exact hnext _ _ _ _ _ _ _ (Nat.le_succ _) (Nat.le_add_right _ 6) hRel hM hl
def σ00 : Mem := (0, fun _ => 0, fun _ => 0, fun _ _ => 0, fun _ _ => 0, fun _ _ => none)
def INIT (Rel : Mem → Prop) : Prop := ∃ σa σb, fX8_init 0 (al σ00 8 0) = some σa ∧ gN σa = 304 ∧ fX9_init 304 (al σa 9 0) = some σb ∧ gN σb = 330 ∧ Rel (al σb 12 1)
theorem wclL_8 : Cond.classLink RL 8 RX8 ∈ WALL := WALL_of (by decide +kernel) (by decide +kernel)
theorem wclL_32 : Cond.classLink RL 32 RX9 ∈ WALL := WALL_of (by decide +kernel) (by decide +kernel)
theorem mliL_31 : Cond.methodLink RL 31 yX8_init ∈ WALL := WALL_of (by decide +kernel) (by decide +kernel)
theorem mliL_34 : Cond.methodLink RL 34 yX9_init ∈ WALL := WALL_of (by decide +kernel) (by decide +kernel)
theorem wiiL_8 : Cond.instanceMethod yX8_init ∈ WALL := WALL_of (by decide +kernel) (by decide +kernel)
theorem wiiL_9 : Cond.instanceMethod yX9_init ∈ WALL := WALL_of (by decide +kernel) (by decide +kernel)
theorem wciL_8 : Cond.code yX8_init cX8_init 1 none ∈ WALL := WALL_of (by decide +kernel) (by decide +kernel)
theorem wciL_9 : Cond.code yX9_init cX9_init 1 none ∈ WALL := WALL_of (by decide +kernel) (by decide +kernel)
theorem hdiL_8 : yX8_init.cls ≠ "java/lang/invoke/MethodHandle" ∧ yX8_init.cls ≠ "java/lang/invoke/VarHandle" ∧ (parseMethodDescriptor yX8_init.desc).map (fun d => d.parameters.length) = some 0 := by decide +kernel
theorem hdiL_9 : yX9_init.cls ≠ "java/lang/invoke/MethodHandle" ∧ yX9_init.cls ≠ "java/lang/invoke/VarHandle" ∧ (parseMethodDescriptor yX9_init.desc).map (fun d => d.parameters.length) = some 0 := by decide +kernel
theorem arr_of {args : Array Value} {s : State} {ty : FieldType} (h : (Cond.arrayClass ty).before args s = true) : ∃ cA : ClassId, ArrOfT s cA ty ∧ s.vm.findClass ("[" ++ ty.toString) = some cA := by
  obtain ⟨c, k, comp, h1, h2, h3⟩ := Cond.arrayClass_spec h
  exact ⟨c, fun n z => ⟨fun k h => (by cases h), k, h2, comp, h3⟩, h1⟩
theorem arr_ofO {args : Array Value} {s : State} {C : String} (h : (Cond.arrayOver (.object C)).before args s = true) : ∃ cA : ClassId, ArrOfT s cA (.object C) ∧ va_RA s cA (.object C) := by
  obtain ⟨comp, c, k, h1, h2, h3, h4, h5⟩ := Cond.arrayOver_spec h
  exact ⟨c, fun n z => ⟨fun k h => (by cases h), k, h3, comp, h4⟩, k, comp, h3, h4, h1, h5⟩
theorem NW_start {args : Array Value} {s : State} (hts : ∀ w ∈ lw_tbl, w.before args s = true) : NW s := by
  intro w hw
  have h1 := hts w (List.mem_filter.mp hw).1
  have h2 := (List.mem_filter.mp hw).2
  cases w <;> first | exact va_Nw.of rfl h1 | cases h2
theorem XWL_tbl : ∀ w ∈ XWL, w ∈ lw_tbl := by decide +kernel
theorem XW_start {args : Array Value} {s : State} (hts : ∀ w ∈ lw_tbl, w.before args s = true) : XW s := by
  intro w hw
  have h1 := hts w (XWL_tbl w hw)
  have h2 := XWL_dc w hw
  cases w <;> first | exact va_Nw.of rfl h1 | cases h2
theorem zs_PLAN {args : Array Value} {s : State} {A : Nat → Prop} (hts : ∀ w ∈ lw_tbl, w.before args s = true) (hgv : (Jvm.Cond.and given_1 narrow_1).before args s = true) (hA : ∀ a : Nat, a < s.heap.size → ¬ A a) : va_Z RX9 "PLAN" "J" (.long 323717) A s s.heap :=
  va_Zof (hts (.laysStatic RX9 "PLAN" "J") (by decide +kernel)) (hts (.initialized RX9) (by decide +kernel)) (va_eql (flat_of_before _ hgv (.eq (.static RX9 "PLAN" "J") (.long 323717)) (by decide +kernel))) hA
theorem zs_FEE {args : Array Value} {s : State} {A : Nat → Prop} (hts : ∀ w ∈ lw_tbl, w.before args s = true) (hgv : (Jvm.Cond.and given_1 narrow_1).before args s = true) (hA : ∀ a : Nat, a < s.heap.size → ¬ A a) : va_Z RX9 "FEE" "J" (.long 4514) A s s.heap :=
  va_Zof (hts (.laysStatic RX9 "FEE" "J") (by decide +kernel)) (hts (.initialized RX9) (by decide +kernel)) (va_eql (flat_of_before _ hgv (.eq (.static RX9 "FEE" "J") (.long 4514)) (by decide +kernel))) hA
theorem zs_TERM {args : Array Value} {s : State} {A : Nat → Prop} (hts : ∀ w ∈ lw_tbl, w.before args s = true) (hgv : (Jvm.Cond.and given_1 narrow_1).before args s = true) (hA : ∀ a : Nat, a < s.heap.size → ¬ A a) : va_Z RX9 "TERM" "J" (.long 397804) A s s.heap :=
  va_Zof (hts (.laysStatic RX9 "TERM" "J") (by decide +kernel)) (hts (.initialized RX9) (by decide +kernel)) (va_eql (flat_of_before _ hgv (.eq (.static RX9 "TERM" "J") (.long 397804)) (by decide +kernel))) hA
theorem zs_FROM {args : Array Value} {s : State} {A : Nat → Prop} (hts : ∀ w ∈ lw_tbl, w.before args s = true) (hgv : (Jvm.Cond.and given_1 narrow_1).before args s = true) (hA : ∀ a : Nat, a < s.heap.size → ¬ A a) : va_Z RX9 "FROM" "J" (.long 131638) A s s.heap :=
  va_Zof (hts (.laysStatic RX9 "FROM" "J") (by decide +kernel)) (hts (.initialized RX9) (by decide +kernel)) (va_eql (flat_of_before _ hgv (.eq (.static RX9 "FROM" "J") (.long 131638)) (by decide +kernel))) hA
theorem zs_UNTIL {args : Array Value} {s : State} {A : Nat → Prop} (hts : ∀ w ∈ lw_tbl, w.before args s = true) (hgv : (Jvm.Cond.and given_1 narrow_1).before args s = true) (hA : ∀ a : Nat, a < s.heap.size → ¬ A a) : va_Z RX9 "UNTIL" "J" (.long 11450658) A s s.heap :=
  va_Zof (hts (.laysStatic RX9 "UNTIL" "J") (by decide +kernel)) (hts (.initialized RX9) (by decide +kernel)) (va_eql (flat_of_before _ hgv (.eq (.static RX9 "UNTIL" "J") (.long 11450658)) (by decide +kernel))) hA
theorem zs_FOR {args : Array Value} {s : State} {A : Nat → Prop} (hts : ∀ w ∈ lw_tbl, w.before args s = true) (hgv : (Jvm.Cond.and given_1 narrow_1).before args s = true) (hA : ∀ a : Nat, a < s.heap.size → ¬ A a) : va_Z RX9 "FOR" "J" (.long 4797) A s s.heap :=
  va_Zof (hts (.laysStatic RX9 "FOR" "J") (by decide +kernel)) (hts (.initialized RX9) (by decide +kernel)) (va_eql (flat_of_before _ hgv (.eq (.static RX9 "FOR" "J") (.long 4797)) (by decide +kernel))) hA
theorem zs_FREE {args : Array Value} {s : State} {A : Nat → Prop} (hts : ∀ w ∈ lw_tbl, w.before args s = true) (hgv : (Jvm.Cond.and given_1 narrow_1).before args s = true) (hA : ∀ a : Nat, a < s.heap.size → ¬ A a) : va_Z RX9 "FREE" "J" (.long 131360) A s s.heap :=
  va_Zof (hts (.laysStatic RX9 "FREE" "J") (by decide +kernel)) (hts (.initialized RX9) (by decide +kernel)) (va_eql (flat_of_before _ hgv (.eq (.static RX9 "FREE" "J") (.long 131360)) (by decide +kernel))) hA
theorem zs_TO {args : Array Value} {s : State} {A : Nat → Prop} (hts : ∀ w ∈ lw_tbl, w.before args s = true) (hgv : (Jvm.Cond.and given_1 narrow_1).before args s = true) (hA : ∀ a : Nat, a < s.heap.size → ¬ A a) : va_Z RX9 "TO" "J" (.long 555) A s s.heap :=
  va_Zof (hts (.laysStatic RX9 "TO" "J") (by decide +kernel)) (hts (.initialized RX9) (by decide +kernel)) (va_eql (flat_of_before _ hgv (.eq (.static RX9 "TO" "J") (.long 555)) (by decide +kernel))) hA
theorem zs_AT {args : Array Value} {s : State} {A : Nat → Prop} (hts : ∀ w ∈ lw_tbl, w.before args s = true) (hgv : (Jvm.Cond.and given_1 narrow_1).before args s = true) (hA : ∀ a : Nat, a < s.heap.size → ¬ A a) : va_Z RX9 "AT" "J" (.long 47) A s s.heap :=
  va_Zof (hts (.laysStatic RX9 "AT" "J") (by decide +kernel)) (hts (.initialized RX9) (by decide +kernel)) (va_eql (flat_of_before _ hgv (.eq (.static RX9 "AT" "J") (.long 47)) (by decide +kernel))) hA
theorem zs_REST {args : Array Value} {s : State} {A : Nat → Prop} (hts : ∀ w ∈ lw_tbl, w.before args s = true) (hgv : (Jvm.Cond.and given_1 narrow_1).before args s = true) (hA : ∀ a : Nat, a < s.heap.size → ¬ A a) : va_Z RX9 "REST" "J" (.long 358472) A s s.heap :=
  va_Zof (hts (.laysStatic RX9 "REST" "J") (by decide +kernel)) (hts (.initialized RX9) (by decide +kernel)) (va_eql (flat_of_before _ hgv (.eq (.static RX9 "REST" "J") (.long 358472)) (by decide +kernel))) hA
theorem zs_all {args : Array Value} {s : State} {A : Nat → Prop} (hts : ∀ w ∈ lw_tbl, w.before args s = true) (hgv : (Jvm.Cond.and given_1 narrow_1).before args s = true) (hA : ∀ a : Nat, a < s.heap.size → ¬ A a) : ∀ q ∈ stL, va_Z RX9 q.1 "J" (.long q.2) A s s.heap := by
  intro q hq
  simp only [stL, List.mem_cons, List.not_mem_nil, or_false] at hq
  rcases hq with rfl | rfl | rfl | rfl | rfl | rfl | rfl | rfl | rfl | rfl
  · exact zs_PLAN hts hgv hA
  · exact zs_FEE hts hgv hA
  · exact zs_TERM hts hgv hA
  · exact zs_FROM hts hgv hA
  · exact zs_UNTIL hts hgv hA
  · exact zs_FOR hts hgv hA
  · exact zs_FREE hts hgv hA
  · exact zs_TO hts hgv hA
  · exact zs_AT hts hgv hA
  · exact zs_REST hts hgv hA
abbrev tmW : Term := .static RX4 "WORD_LETTERS" "[J"
theorem wl_el0 {args : Array Value} {s : State} (hgv : (Jvm.Cond.and given_1 narrow_1).before args s = true) : (Term.elem tmW (.int 0)).eval args s none [] s = some (.long 1886151022) := va_eqtl (flat_of_before _ hgv (.eq (.elem tmW (.int 0)) (.long 1886151022)) (by decide +kernel))
theorem wl_el1 {args : Array Value} {s : State} (hgv : (Jvm.Cond.and given_1 narrow_1).before args s = true) : (Term.elem tmW (.int 1)).eval args s none [] s = some (.long 6710629) := va_eqtl (flat_of_before _ hgv (.eq (.elem tmW (.int 1)) (.long 6710629)) (by decide +kernel))
theorem wl_el2 {args : Array Value} {s : State} (hgv : (Jvm.Cond.and given_1 narrow_1).before args s = true) : (Term.elem tmW (.int 2)).eval args s none [] s = some (.long 1952805485) := va_eqtl (flat_of_before _ hgv (.eq (.elem tmW (.int 2)) (.long 1952805485)) (by decide +kernel))
theorem wl_el3 {args : Array Value} {s : State} (hgv : (Jvm.Cond.and given_1 narrow_1).before args s = true) : (Term.elem tmW (.int 3)).eval args s none [] s = some (.long 1718775661) := va_eqtl (flat_of_before _ hgv (.eq (.elem tmW (.int 3)) (.long 1718775661)) (by decide +kernel))
theorem wl_el4 {args : Array Value} {s : State} (hgv : (Jvm.Cond.and given_1 narrow_1).before args s = true) : (Term.elem tmW (.int 4)).eval args s none [] s = some (.long 504364296556) := va_eqtl (flat_of_before _ hgv (.eq (.elem tmW (.int 4)) (.long 504364296556)) (by decide +kernel))
theorem wl_el5 {args : Array Value} {s : State} (hgv : (Jvm.Cond.and given_1 narrow_1).before args s = true) : (Term.elem tmW (.int 5)).eval args s none [] s = some (.long 6713202) := va_eqtl (flat_of_before _ hgv (.eq (.elem tmW (.int 5)) (.long 6713202)) (by decide +kernel))
theorem wl_el6 {args : Array Value} {s : State} (hgv : (Jvm.Cond.and given_1 narrow_1).before args s = true) : (Term.elem tmW (.int 6)).eval args s none [] s = some (.long 1718773093) := va_eqtl (flat_of_before _ hgv (.eq (.elem tmW (.int 6)) (.long 1718773093)) (by decide +kernel))
theorem wl_el7 {args : Array Value} {s : State} (hgv : (Jvm.Cond.and given_1 narrow_1).before args s = true) : (Term.elem tmW (.int 7)).eval args s none [] s = some (.long 29807) := va_eqtl (flat_of_before _ hgv (.eq (.elem tmW (.int 7)) (.long 29807)) (by decide +kernel))
theorem wl_el8 {args : Array Value} {s : State} (hgv : (Jvm.Cond.and given_1 narrow_1).before args s = true) : (Term.elem tmW (.int 8)).eval args s none [] s = some (.long 24948) := va_eqtl (flat_of_before _ hgv (.eq (.elem tmW (.int 8)) (.long 24948)) (by decide +kernel))
theorem wl_el9 {args : Array Value} {s : State} (hgv : (Jvm.Cond.and given_1 narrow_1).before args s = true) : (Term.elem tmW (.int 9)).eval args s none [] s = some (.long 1919251316) := va_eqtl (flat_of_before _ hgv (.eq (.elem tmW (.int 9)) (.long 1919251316)) (by decide +kernel))
theorem wl_tab {args : Array Value} {s : State} {A : Nat → Prop} (hts : ∀ w ∈ lw_tbl, w.before args s = true) (hgv : (Jvm.Cond.and given_1 narrow_1).before args s = true) (hA : ∀ a : Nat, a < s.heap.size → ¬ A a) : ∃ t : Nat, va_Z RX4 "WORD_LETTERS" "[J" (.ref t) A s s.heap ∧ va_T .long t 10 (fun j => .long (wLet j)) A s s.heap := by
  have harr : (Cond.arrayOf tmW .long).before args s = true := flat_of_before _ hgv _ (by decide +kernel)
  have hlen := va_eqt (flat_of_before _ hgv (.eq (.length tmW) (.int 10)) (by decide +kernel))
  obtain ⟨t, ht, hT⟩ := va_Tof (N := 10) (f := fun j => .long (wLet j)) (A := A) (by decide) harr hlen (fun j hj => by
    match j, hj with
    | 0, _ => exact wl_el0 hgv
    | 1, _ => exact wl_el1 hgv
    | 2, _ => exact wl_el2 hgv
    | 3, _ => exact wl_el3 hgv
    | 4, _ => exact wl_el4 hgv
    | 5, _ => exact wl_el5 hgv
    | 6, _ => exact wl_el6 hgv
    | 7, _ => exact wl_el7 hgv
    | 8, _ => exact wl_el8 hgv
    | 9, _ => exact wl_el9 hgv
    | j + 10, hj => exact absurd hj (by omega)) hA
  exact ⟨t, va_Zof (hts (.laysStatic RX4 "WORD_LETTERS" "[J") (by decide +kernel)) (hts (.initialized RX4) (by decide +kernel)) ht hA, hT⟩
set_option maxRecDepth 20000 in
set_option maxHeartbeats 4000000 in
theorem GX_start {args : Array Value} {s : State} (hts : ∀ w ∈ lw_tbl, w.before args s = true) (hgv : (Jvm.Cond.and given_1 narrow_1).before args s = true) : ∃ (D : va_G) (cy : Nat → ClassId), GX D cy (fun q : Nat => s.heap.size ≤ q) s ∧ va_AO RX0 s ∧ va_AO RX2 s := by
  have hA : ∀ a : Nat, a < s.heap.size → ¬ (fun q : Nat => s.heap.size ≤ q) a := fun a h => Nat.not_le.mpr h
  obtain ⟨c0, iS0, hKn0⟩ := u_known (C := RX0) (T := TX0) (N := 5) (n := 5) hts inT0 (hts (.instantiable RX0 5) (by decide +kernel))
  obtain ⟨c1, iS1, hKn1⟩ := u_known (C := RX1) (T := TX1) (N := 4) (n := 4) hts inT1 (hts (.instantiable RX1 4) (by decide +kernel))
  obtain ⟨c2, iS2, hKn2⟩ := u_known (C := RX2) (T := TX2) (N := 8) (n := 8) hts inT2 (hts (.instantiable RX2 8) (by decide +kernel))
  obtain ⟨c3, iS3, hKn3⟩ := u_known (C := RX3) (T := TX3) (N := 2) (n := 2) hts inT3 (hts (.instantiable RX3 2) (by decide +kernel))
  obtain ⟨c4, iS4, hKn4⟩ := u_known (C := RX4) (T := TX4) (N := 12) (n := 12) hts inT4 (hts (.instantiable RX4 12) (by decide +kernel))
  obtain ⟨c5, iS5, hKn5⟩ := u_known (C := RX5) (T := TX5) (N := 8) (n := 8) hts inT5 (hts (.instantiable RX5 8) (by decide +kernel))
  obtain ⟨c6, iS6, hKn6⟩ := u_known (C := RX6) (T := TX6) (N := 2) (n := 2) hts inT6 (hts (.instantiable RX6 2) (by decide +kernel))
  obtain ⟨c7, iS7, hKn7⟩ := u_known (C := RX7) (T := TX7) (N := 2) (n := 2) hts inT7 (hts (.instantiable RX7 2) (by decide +kernel))
  obtain ⟨c8, iS8, hKn8⟩ := u_known (C := RX8) (T := TX8) (N := 12) (n := 12) hts inT8 (hts (.instantiable RX8 12) (by decide +kernel))
  obtain ⟨c9, iS9, hKn9⟩ := u_known (C := RX9) (T := TX9) (N := 42) (n := 42) hts inT9 (hts (.instantiable RX9 42) (by decide +kernel))
  obtain ⟨dC, dI, hKc⟩ : ∃ (dC : Nat → ClassId) (dI : Nat → Nat → Nat), ∀ (k : Nat) (q : vw_C), vwCl[k]? = some q → u_Kn s q.1 q.2.1 q.2.2 (dC k) (dI k) := by
    refine ⟨fun k => if k = 0 then c0 else if k = 1 then c1 else if k = 2 then c2 else if k = 3 then c3 else if k = 4 then c4 else if k = 5 then c5 else if k = 6 then c6 else if k = 7 then c7 else if k = 8 then c8 else c9, fun k => if k = 0 then iS0 else if k = 1 then iS1 else if k = 2 then iS2 else if k = 3 then iS3 else if k = 4 then iS4 else if k = 5 then iS5 else if k = 6 then iS6 else if k = 7 then iS7 else if k = 8 then iS8 else iS9, ?_⟩
    intro k q hq
    match k, hq with
    | 0, hq => cases hq; exact hKn0
    | 1, hq => cases hq; exact hKn1
    | 2, hq => cases hq; exact hKn2
    | 3, hq => cases hq; exact hKn3
    | 4, hq => cases hq; exact hKn4
    | 5, hq => cases hq; exact hKn5
    | 6, hq => cases hq; exact hKn6
    | 7, hq => cases hq; exact hKn7
    | 8, hq => cases hq; exact hKn8
    | 9, hq => cases hq; exact hKn9
    | k + 10, hq => simp [vwCl] at hq
  obtain ⟨aB, hB1, hB2⟩ := arr_of (hts (.arrayClass .byte) (by decide +kernel))
  obtain ⟨aI, hI1, hI2⟩ := arr_of (hts (.arrayClass .int) (by decide +kernel))
  obtain ⟨aJ, hJ1, hJ2⟩ := arr_of (hts (.arrayClass .long) (by decide +kernel))
  obtain ⟨aZ, hZ1, hZ2⟩ := arr_of (hts (.arrayClass .boolean) (by decide +kernel))
  obtain ⟨aP, hP1, hP2⟩ := arr_ofO (hts (.arrayOver (.object RX0)) (by decide +kernel))
  obtain ⟨aQ, hQ1, hQ2⟩ := arr_ofO (hts (.arrayOver (.object RX2)) (by decide +kernel))
  refine ⟨(dC, dI), fun k => if k = 10 then aB else if k = 11 then aI else if k = 12 then aJ else if k = 13 then aZ else if k = 14 then aP else aQ, ⟨⟨⟨hKc, ?_⟩, NW_start hts, ⟨zs_all hts hgv hA, wl_tab hts hgv hA⟩, fun q h => h⟩, XW_start hts, vx_Zqof (hts (.laysStatic Bundle.tN "UNASSIGNED_STACK" Bundle.steD) (by decide +kernel)) (hts (.initialized Bundle.tN) (by decide +kernel)) (flat_of_before _ hgv _ (by decide +kernel)) hA, vx_Zqof (hts (.laysStatic Bundle.tN "SUPPRESSED_SENTINEL" Bundle.listD) (by decide +kernel)) (hts (.initialized Bundle.tN) (by decide +kernel)) (flat_of_before _ hgv _ (by decide +kernel)) hA⟩, va_AO.of (hts (.arrayOver (.object RX0)) (by decide +kernel)), va_AO.of (hts (.arrayOver (.object RX2)) (by decide +kernel))⟩
  intro k q hq
  match k, hq with
  | 0, hq => cases hq; exact ⟨hB1, hB2⟩
  | 1, hq => cases hq; exact ⟨hI1, hI2⟩
  | 2, hq => cases hq; exact ⟨hJ1, hJ2⟩
  | 3, hq => cases hq; exact ⟨hZ1, hZ2⟩
  | 4, hq => cases hq; exact ⟨hP1, hP2⟩
  | 5, hq => cases hq; exact ⟨hQ1, hQ2⟩
  | k + 6, hq => simp [tyL] at hq
set_option maxRecDepth 20000 in
set_option maxHeartbeats 4000000 in
theorem whole_open {p : Program} {e : Env} {s : State} {m : MethodId} {below : List Frame} {meth : Method} {c : Code} (l : Launch) {b L : Nat} {xs : Nat → Int32} {Rel : Mem → Prop} (hI : INIT Rel) (hO : OPS Rel) (hls : l.stackTraces = false) (hL : L ≤ 3072) (C0 : lw_At p s m meth c b L xs) : W p l e room_1 s m #[Value.ref b] below meth c s.heap [] 0 0 (lw_Z below #[Value.ref b] s) (entryFrame m ([Value.ref b] : List Value).toArray 8) := by
  obtain ⟨hx, hb, hr, hml, hown, hts, hX, hbl, hlocks, hgv⟩ := id C0
  have hC : CallFix p m c cL_law 8 s #[Value.ref b] WALL RL := ⟨hx, hb, hml, hown, fun w hw => hts w (List.mem_filter.mp hw).1⟩
  obtain ⟨D, cy, hGX, hAO1, hAO2⟩ := GX_start hts hgv
  have hGC : GC D cy (fun q : Nat => s.heap.size ≤ q) s := ⟨hGX.1, hAO1, hAO2⟩
  obtain ⟨σa, σb, i1, i2, i3, i4, hRel⟩ := hI
  have hM : MC D cy s.heap.size (fun q : Nat => s.heap.size ≤ q) s.heap σ00 s.heap [] := ⟨fun k q h => by simp [MM, σ00] at h, ⟨fun i j p q h => by simp [MM, σ00] at h, fun k q h => by simp [MM, σ00] at h⟩, va_S.rf, rfl⟩
  have hl := lv_entry ([.ref b]) (n := 8) (Nat.le_of_ble_eq_true rfl)
  rw [lg_entry_eq]
  generalize (lg_sl ([.ref b]) ++ List.replicate (8 - (lg_sl ([.ref b])).length) Slot.unset).toArray = ls at hl ⊢
  have hl : lv_has ls 8 [(0, .ref b)] := hl
  refine m_newc (T := TX8) hC inW8 tyX8 tyX8_ok wclL_8 wia_8 wni_X8 hGX.1 hM (by decide) rfl rfl dv8 (by decide) (by decide) dL_law_0 (fun H hM => ?_)
  refine lv_dup hx hb dL_law_3 (va_cat _) ?_
  refine callI_N (As := []) (mc := 303) (ms := 3444) ⟨by decide, by decide⟩ rfl mliL_31 wiiL_8 rfl wni_X8 wciL_8 hdiL_8 hC hGC hM (cX8_init_ok i1) ⟨by decide, by decide⟩ hl.1 (Nat.le_of_ble_eq_true rfl) dL_law_4 rfl (fun H locs hM => ?_)
  refine lv_astore_n (lv' := [(1, .ref (adz s.heap.size 0)), (0, .ref b)]) hx hb dL_law_7 rfl hl (by decide) rfl (fun ls hl => ?_)
  refine m_newc (T := TX9) hC inW9 tyX9 tyX9_ok wclL_32 wia_9 wni_X9 hGX.1 hM (by decide) rfl rfl dv9 (by decide) (by decide) dL_law_8 (fun H hM => ?_)
  rw [i2]
  refine lv_dup hx hb dL_law_11 (va_cat _) ?_
  refine callI_N (As := []) (mc := 25) (ms := 14716) ⟨by decide, by decide⟩ rfl mliL_34 wiiL_9 rfl wni_X9 wciL_9 hdiL_9 hC hGC hM (cX9_init_ok i3) ⟨by decide, by decide⟩ hl.1 (Nat.le_of_ble_eq_true rfl) dL_law_12 rfl (fun H locs hM => ?_)
  refine lv_astore_n (lv' := [(2, .ref (adz s.heap.size 304)), (1, .ref (adz s.heap.size 0)), (0, .ref b)]) hx hb dL_law_15 rfl hl (by decide) rfl (fun ls hl => ?_)
  refine lv_iconst (v := 1) hx hb dL_law_16 (by decide) ?_
  refine m_newJ (N := 1) hx hb (hC.2.2.2.2 _ wa_long) hGX.1 hM (by decide) (by decide) (by decide) (by decide) (by decide) dL_law_17 (fun H hM => ?_)
  rw [i4]
  refine lv_astore_n (lv' := [(3, .ref (adz s.heap.size 330)), (2, .ref (adz s.heap.size 304)), (1, .ref (adz s.heap.size 0)), (0, .ref b)]) hx hb dL_law_19 rfl hl (by decide) rfl (fun ls hl => ?_)
  refine lv_iconst (v := 0) hx hb dL_law_20 (by decide) ?_
  refine lv_istore (lv' := [(4, .int 0), (3, .ref (adz s.heap.size 330)), (2, .ref (adz s.heap.size 304)), (1, .ref (adz s.heap.size 0)), (0, .ref b)]) hx hb dL_law_21 hl (by decide) rfl (fun ls hl => ?_)
  exact law_loop (ad := adz s.heap.size) hL C0 hls hGX hO (L + 7) 0 0 _ _ _ _ _ _ _ (by omega) (by omega) nI_0.symm (by decide) (by decide) hRel hM (lv_sub hl [4, 3, 2, 1, 0] rfl)
