/-! from the law's entry to the flat world -/
theorem room_mono {s : State} {pl : Platform} {R R' : Room} (h : s.hasRoom pl R = true) (h1 : R'.frames ≤ R.frames) (h2 : R'.cells ≤ R.cells) (h3 : R'.slots ≤ R.slots) (h4 : R'.locals ≤ R.locals) : s.hasRoom pl R' = true := by
  simp only [State.hasRoom, Bool.and_eq_true, decide_eq_true_eq] at h ⊢
  obtain ⟨⟨⟨⟨a1, a2, a3, a4, a5, a6⟩, a7⟩, a8⟩, a9⟩ := h
  exact ⟨⟨⟨⟨by omega, by omega, by omega, by omega, by omega, a6⟩, by omega⟩, by omega⟩, a9⟩
/-- what holds at the law's entry -/
def AtL (p : Program) (s : State) (m : MethodId) (meth : Method) (c : Code) (b L : Nat) (xs : Nat → Int32) : Prop :=
  p.tables.exec = Jvm.exec ∧ c.code = code ∧ meth.sig.returnType = ret ∧ c.maxLocals = 4 ∧ s.vm.findClass "FewerStepsLaw" = some m.cls ∧ (∀ w ∈ lw_tbl, w.before #[Value.ref b] s = true) ∧ va_X b L xs s s.heap ∧ b < s.heap.size ∧ meth.locks = false ∧ (Jvm.Cond.and given_1 narrow_1).before #[Value.ref b] s = true
theorem arr_prim {s : State} {args : Array Value} {ty : FieldType} (hp : refKind ty = false) (h : (Cond.arrayClass ty).before args s = true) : ∃ c, ArrOfT s c ty ∧ va_RA s c ty := by
  obtain ⟨c, k, comp, h1, h2, h3⟩ := Cond.arrayClass_spec h
  refine ⟨c, fun n z => ⟨fun k h => (by cases h), k, h2, comp, h3⟩, ?_⟩
  cases ty <;> first | exact h1 | (simp [refKind] at hp)
theorem arr_obj {s : State} {C : String} (h : va_AO C s) : ∃ c, ArrOfT s c (.object C) ∧ va_RA s c (.object C) := by
  obtain ⟨comp, c, k, h1, _, h3, h4, h5⟩ := Cond.arrayOver_spec h
  exact ⟨c, fun n z => ⟨fun k h => (by cases h), k, h3, comp, h4⟩, k, comp, h3, h4, h1, h5⟩
set_option maxRecDepth 100000 in
set_option maxHeartbeats 4000000 in
theorem KU_start {p : Program} {s : State} {m : MethodId} {meth : Method} {c : Code} {b L : Nat} {xs : Nat → Int32} (l : Launch) (C0 : AtL p s m meth c b L xs) :
    ∃ G : GG, gl G = l ∧ gB G = s.heap.size ∧ gS G 0 = b ∧ gL G = L ∧ gX G = xs ∧ KU G s := by
  obtain ⟨hx, hb, hr, hml, hown, hts, hX, hbl, hlocks, hgv⟩ := C0
  have hB : ∀ w ∈ BIG, w.before #[Value.ref b] s = true := fun w hw => hts w (List.mem_filter.mp hw).1
  have big : ∀ {w : Cond} (i : Nat), tables_1[i]? = some w → w.before #[Value.ref b] s = true := fun i h => hts _ (List.mem_append_right _ (List.mem_of_getElem? h))
  obtain ⟨c0, s0, k0⟩ := u_known (C := RX0) (T := TX0) (N := 10) (n := 10) hB inX0 (big 236 (by decide +kernel) : (Cond.instantiable RX0 10).before #[Value.ref b] s = true)
  obtain ⟨c1, s1, k1⟩ := u_known (C := RX1) (T := TX1) (N := 2) (n := 2) hB inX1 (big 33 (by decide +kernel) : (Cond.instantiable RX1 2).before #[Value.ref b] s = true)
  obtain ⟨c2, s2, k2⟩ := u_known (C := RX2) (T := TX2) (N := 6) (n := 6) hB inX2 (big 90 (by decide +kernel) : (Cond.instantiable RX2 6).before #[Value.ref b] s = true)
  obtain ⟨c3, s3, k3⟩ := u_known (C := RX3) (T := TX3) (N := 9) (n := 9) hB inX3 (big 153 (by decide +kernel) : (Cond.instantiable RX3 9).before #[Value.ref b] s = true)
  obtain ⟨c4, s4, k4⟩ := u_known (C := RX4) (T := TX4) (N := 14) (n := 14) hB inX4 (big 276 (by decide +kernel) : (Cond.instantiable RX4 14).before #[Value.ref b] s = true)
  obtain ⟨c5, s5, k5⟩ := u_known (C := RX5) (T := TX5) (N := 6) (n := 6) hB inX5 (big 204 (by decide +kernel) : (Cond.instantiable RX5 6).before #[Value.ref b] s = true)
  obtain ⟨c6, s6, k6⟩ := u_known (C := RX6) (T := TX6) (N := 1) (n := 1) hB inX6 (big 192 (by decide +kernel) : (Cond.instantiable RX6 1).before #[Value.ref b] s = true)
  obtain ⟨c7, s7, k7⟩ := u_known (C := RX7) (T := TX7) (N := 10) (n := 10) hB inX7 (big 27 (by decide +kernel) : (Cond.instantiable RX7 10).before #[Value.ref b] s = true)
  obtain ⟨c8, s8, k8⟩ := u_known (C := RX8) (T := TX8) (N := 4) (n := 4) hB inX8 (big 327 (by decide +kernel) : (Cond.instantiable RX8 4).before #[Value.ref b] s = true)
  obtain ⟨c9, s9, k9⟩ := u_known (C := RX9) (T := TX9) (N := 4) (n := 4) hB inX9 (big 99 (by decide +kernel) : (Cond.instantiable RX9 4).before #[Value.ref b] s = true)
  obtain ⟨c10, s10, k10⟩ := u_known (C := RX10) (T := TX10) (N := 7) (n := 7) hB inX10 (big 347 (by decide +kernel) : (Cond.instantiable RX10 7).before #[Value.ref b] s = true)
  obtain ⟨c11, s11, k11⟩ := u_known (C := RX11) (T := TX11) (N := 14) (n := 14) hB inX11 (big 19 (by decide +kernel) : (Cond.instantiable RX11 14).before #[Value.ref b] s = true)
  obtain ⟨c12, s12, k12⟩ := u_known (C := RX12) (T := TX12) (N := 48) (n := 48) hB inX12 (big 1036 (by decide +kernel) : (Cond.instantiable RX12 48).before #[Value.ref b] s = true)
  obtain ⟨y0, q0, r0⟩ := arr_prim (ty := .int) rfl (hB _ aw_int)
  obtain ⟨y1, q1, r1⟩ := arr_prim (ty := .long) rfl (hB _ aw_long)
  obtain ⟨y2, q2, r2⟩ := arr_prim (ty := .boolean) rfl (hB _ aw_boolean)
  have ao0 : va_AO "FewerSteps$Desk" s := va_AO.of (big 151 (by decide +kernel))
  obtain ⟨y3, q3, r3⟩ := arr_obj ao0
  have ao1 : va_AO "FewerSteps$Rows" s := va_AO.of (big 354 (by decide +kernel))
  obtain ⟨y4, q4, r4⟩ := arr_obj ao1
  have ao2 : va_AO "FewerSteps$Rule" s := va_AO.of (big 98 (by decide +kernel))
  obtain ⟨y5, q5, r5⟩ := arr_obj ao2
  have fl := flat_of_before _ hgv
  have hA0 : ∀ a : Nat, a < s.heap.size → ¬ (fun q : Nat => s.heap.size ≤ q) a := fun a h q => Nat.not_le.mpr h q
  have el0 : ∀ j : Nat, j < 4 → (Term.elem (Term.static "FewerSteps" "ACTS" "[I") (.int (Int32.ofNat j))).eval #[Value.ref b] s none [] s = some (.int (actsF j)) := by
    intro j hj
    rcases (by omega : j = 0 ∨ j = 1 ∨ j = 2 ∨ j = 3) with rfl | rfl | rfl | rfl
    · exact va_eqt (fl (Cond.eq (.elem (Term.static "FewerSteps" "ACTS" "[I") (.int 0)) (.int (43))) (by decide +kernel))
    · exact va_eqt (fl (Cond.eq (.elem (Term.static "FewerSteps" "ACTS" "[I") (.int 1)) (.int (45))) (by decide +kernel))
    · exact va_eqt (fl (Cond.eq (.elem (Term.static "FewerSteps" "ACTS" "[I") (.int 2)) (.int (42))) (by decide +kernel))
    · exact va_eqt (fl (Cond.eq (.elem (Term.static "FewerSteps" "ACTS" "[I") (.int 3)) (.int (109))) (by decide +kernel))
  obtain ⟨t0, e0, T0⟩ := va_Tof (tm := (Term.static "FewerSteps" "ACTS" "[I")) (ty := .int) (N := 4) (f := fun j => .int (actsF j)) (A := fun q : Nat => s.heap.size ≤ q) (by decide) (fl (Cond.arrayOf (Term.static "FewerSteps" "ACTS" "[I") .int) (by decide +kernel)) (va_eqt (fl (Cond.eq (.length (Term.static "FewerSteps" "ACTS" "[I")) (.int 4)) (by decide +kernel))) el0 hA0
  have Z0 : va_Z "FewerSteps" "ACTS" "[I" (.ref t0) (fun q : Nat => s.heap.size ≤ q) s s.heap := va_Zref (big 784 (by decide +kernel)) (big 1 (by decide +kernel)) e0 hA0
  have el1 : ∀ j : Nat, j < 17 → (Term.elem (Term.static "FewerSteps$Search" "MOVES" "[I") (.int (Int32.ofNat j))).eval #[Value.ref b] s none [] s = some (.int (movesF j)) := by
    intro j hj
    rcases (by omega : j = 0 ∨ j = 1 ∨ j = 2 ∨ j = 3 ∨ j = 4 ∨ j = 5 ∨ j = 6 ∨ j = 7 ∨ j = 8 ∨ j = 9 ∨ j = 10 ∨ j = 11 ∨ j = 12 ∨ j = 13 ∨ j = 14 ∨ j = 15 ∨ j = 16) with rfl | rfl | rfl | rfl | rfl | rfl | rfl | rfl | rfl | rfl | rfl | rfl | rfl | rfl | rfl | rfl | rfl
    · exact va_eqt (fl (Cond.eq (.elem (Term.static "FewerSteps$Search" "MOVES" "[I") (.int 0)) (.int (0))) (by decide +kernel))
    · exact va_eqt (fl (Cond.eq (.elem (Term.static "FewerSteps$Search" "MOVES" "[I") (.int 1)) (.int (100))) (by decide +kernel))
    · exact va_eqt (fl (Cond.eq (.elem (Term.static "FewerSteps$Search" "MOVES" "[I") (.int 2)) (.int (200))) (by decide +kernel))
    · exact va_eqt (fl (Cond.eq (.elem (Term.static "FewerSteps$Search" "MOVES" "[I") (.int 3)) (.int (201))) (by decide +kernel))
    · exact va_eqt (fl (Cond.eq (.elem (Term.static "FewerSteps$Search" "MOVES" "[I") (.int 4)) (.int (202))) (by decide +kernel))
    · exact va_eqt (fl (Cond.eq (.elem (Term.static "FewerSteps$Search" "MOVES" "[I") (.int 5)) (.int (211))) (by decide +kernel))
    · exact va_eqt (fl (Cond.eq (.elem (Term.static "FewerSteps$Search" "MOVES" "[I") (.int 6)) (.int (212))) (by decide +kernel))
    · exact va_eqt (fl (Cond.eq (.elem (Term.static "FewerSteps$Search" "MOVES" "[I") (.int 7)) (.int (301))) (by decide +kernel))
    · exact va_eqt (fl (Cond.eq (.elem (Term.static "FewerSteps$Search" "MOVES" "[I") (.int 8)) (.int (302))) (by decide +kernel))
    · exact va_eqt (fl (Cond.eq (.elem (Term.static "FewerSteps$Search" "MOVES" "[I") (.int 9)) (.int (310))) (by decide +kernel))
    · exact va_eqt (fl (Cond.eq (.elem (Term.static "FewerSteps$Search" "MOVES" "[I") (.int 10)) (.int (312))) (by decide +kernel))
    · exact va_eqt (fl (Cond.eq (.elem (Term.static "FewerSteps$Search" "MOVES" "[I") (.int 11)) (.int (400))) (by decide +kernel))
    · exact va_eqt (fl (Cond.eq (.elem (Term.static "FewerSteps$Search" "MOVES" "[I") (.int 12)) (.int (401))) (by decide +kernel))
    · exact va_eqt (fl (Cond.eq (.elem (Term.static "FewerSteps$Search" "MOVES" "[I") (.int 13)) (.int (411))) (by decide +kernel))
    · exact va_eqt (fl (Cond.eq (.elem (Term.static "FewerSteps$Search" "MOVES" "[I") (.int 14)) (.int (501))) (by decide +kernel))
    · exact va_eqt (fl (Cond.eq (.elem (Term.static "FewerSteps$Search" "MOVES" "[I") (.int 15)) (.int (502))) (by decide +kernel))
    · exact va_eqt (fl (Cond.eq (.elem (Term.static "FewerSteps$Search" "MOVES" "[I") (.int 16)) (.int (512))) (by decide +kernel))
  obtain ⟨t1, e1, T1⟩ := va_Tof (tm := (Term.static "FewerSteps$Search" "MOVES" "[I")) (ty := .int) (N := 17) (f := fun j => .int (movesF j)) (A := fun q : Nat => s.heap.size ≤ q) (by decide) (fl (Cond.arrayOf (Term.static "FewerSteps$Search" "MOVES" "[I") .int) (by decide +kernel)) (va_eqt (fl (Cond.eq (.length (Term.static "FewerSteps$Search" "MOVES" "[I")) (.int 17)) (by decide +kernel))) el1 hA0
  have Z1 : va_Z "FewerSteps$Search" "MOVES" "[I" (.ref t1) (fun q : Nat => s.heap.size ≤ q) s s.heap := va_Zref (big 1004 (by decide +kernel)) (big 13 (by decide +kernel)) e1 hA0
  have el2 : ∀ j : Nat, j < 3 → (Term.elem (Term.static "FewerSteps$Rows" "HIGH_DIGIT" "[J") (.int (Int32.ofNat j))).eval #[Value.ref b] s none [] s = some (.long (highF j)) := by
    intro j hj
    rcases (by omega : j = 0 ∨ j = 1 ∨ j = 2) with rfl | rfl | rfl
    · exact va_eqtl (fl (Cond.eq (.elem (Term.static "FewerSteps$Rows" "HIGH_DIGIT" "[J") (.int 0)) (.long (-71777214294589696))) (by decide +kernel))
    · exact va_eqtl (fl (Cond.eq (.elem (Term.static "FewerSteps$Rows" "HIGH_DIGIT" "[J") (.int 1)) (.long (-281470681808896))) (by decide +kernel))
    · exact va_eqtl (fl (Cond.eq (.elem (Term.static "FewerSteps$Rows" "HIGH_DIGIT" "[J") (.int 2)) (.long (-4294967296))) (by decide +kernel))
  obtain ⟨t2, e2, T2⟩ := va_Tof (tm := (Term.static "FewerSteps$Rows" "HIGH_DIGIT" "[J")) (ty := .long) (N := 3) (f := fun j => .long (highF j)) (A := fun q : Nat => s.heap.size ≤ q) (by decide) (fl (Cond.arrayOf (Term.static "FewerSteps$Rows" "HIGH_DIGIT" "[J") .long) (by decide +kernel)) (va_eqt (fl (Cond.eq (.length (Term.static "FewerSteps$Rows" "HIGH_DIGIT" "[J")) (.int 3)) (by decide +kernel))) el2 hA0
  have Z2 : va_Z "FewerSteps$Rows" "HIGH_DIGIT" "[J" (.ref t2) (fun q : Nat => s.heap.size ≤ q) s s.heap := va_Zref (big 360 (by decide +kernel)) (big 12 (by decide +kernel)) e2 hA0
  have el3 : ∀ j : Nat, j < 3 → (Term.elem (Term.static "FewerSteps$Rows" "LOW_DIGIT" "[J") (.int (Int32.ofNat j))).eval #[Value.ref b] s none [] s = some (.long (lowF j)) := by
    intro j hj
    rcases (by omega : j = 0 ∨ j = 1 ∨ j = 2) with rfl | rfl | rfl
    · exact va_eqtl (fl (Cond.eq (.elem (Term.static "FewerSteps$Rows" "LOW_DIGIT" "[J") (.int 0)) (.long (-6148914691236517206))) (by decide +kernel))
    · exact va_eqtl (fl (Cond.eq (.elem (Term.static "FewerSteps$Rows" "LOW_DIGIT" "[J") (.int 1)) (.long (-3689348814741910324))) (by decide +kernel))
    · exact va_eqtl (fl (Cond.eq (.elem (Term.static "FewerSteps$Rows" "LOW_DIGIT" "[J") (.int 2)) (.long (-1085102592571150096))) (by decide +kernel))
  obtain ⟨t3, e3, T3⟩ := va_Tof (tm := (Term.static "FewerSteps$Rows" "LOW_DIGIT" "[J")) (ty := .long) (N := 3) (f := fun j => .long (lowF j)) (A := fun q : Nat => s.heap.size ≤ q) (by decide) (fl (Cond.arrayOf (Term.static "FewerSteps$Rows" "LOW_DIGIT" "[J") .long) (by decide +kernel)) (va_eqt (fl (Cond.eq (.length (Term.static "FewerSteps$Rows" "LOW_DIGIT" "[J")) (.int 3)) (by decide +kernel))) el3 hA0
  have Z3 : va_Z "FewerSteps$Rows" "LOW_DIGIT" "[J" (.ref t3) (fun q : Nat => s.heap.size ≤ q) s s.heap := va_Zref (big 362 (by decide +kernel)) (big 12 (by decide +kernel)) e3 hA0
  refine ⟨(l, fun k => if k = 0 then c0 else if k = 1 then c1 else if k = 2 then c2 else if k = 3 then c3 else if k = 4 then c4 else if k = 5 then c5 else if k = 6 then c6 else if k = 7 then c7 else if k = 8 then c8 else if k = 9 then c9 else if k = 10 then c10 else if k = 11 then c11 else c12, fun k => if k = 0 then s0 else if k = 1 then s1 else if k = 2 then s2 else if k = 3 then s3 else if k = 4 then s4 else if k = 5 then s5 else if k = 6 then s6 else if k = 7 then s7 else if k = 8 then s8 else if k = 9 then s9 else if k = 10 then s10 else if k = 11 then s11 else s12, fun k => if k = 0 then y0 else if k = 1 then y1 else if k = 2 then y2 else if k = 3 then y3 else if k = 4 then y4 else y5, s.heap.size, fun k => if k = 0 then b else if k = 1 then t0 else if k = 2 then t1 else if k = 3 then t2 else t3, L, xs), rfl, rfl, rfl, rfl, rfl, ⟨?_, ?_⟩, ?_, ⟨ao0, ao1, ao2⟩, ⟨⟨Z0, T0⟩, ⟨Z1, T1⟩, ⟨Z2, T2⟩, ⟨Z3, T3⟩, hX, hbl⟩, Nat.le_refl _⟩
  · intro k q hq
    match k, hq with
    | 0, hq => cases hq; exact k0
    | 1, hq => cases hq; exact k1
    | 2, hq => cases hq; exact k2
    | 3, hq => cases hq; exact k3
    | 4, hq => cases hq; exact k4
    | 5, hq => cases hq; exact k5
    | 6, hq => cases hq; exact k6
    | 7, hq => cases hq; exact k7
    | 8, hq => cases hq; exact k8
    | 9, hq => cases hq; exact k9
    | 10, hq => cases hq; exact k10
    | 11, hq => cases hq; exact k11
    | 12, hq => cases hq; exact k12
    | k + 13, hq => simp [vwCl] at hq
  · intro k q hq
    match k, hq with
    | 0, hq => cases hq; exact ⟨q0, r0⟩
    | 1, hq => cases hq; exact ⟨q1, r1⟩
    | 2, hq => cases hq; exact ⟨q2, r2⟩
    | 3, hq => cases hq; exact ⟨q3, r3⟩
    | 4, hq => cases hq; exact ⟨q4, r4⟩
    | 5, hq => cases hq; exact ⟨q5, r5⟩
    | k + 6, hq => simp [tysG] at hq
  · intro w hw
    obtain ⟨h1, h2⟩ := List.mem_filter.mp hw
    refine va_Nw.of ?_ (hts w h1)
    cases w <;> first | rfl | (simp [isNest] at h2)
