/-! the surroundings, out of the tables -/
set_option maxRecDepth 100000 in
set_option maxHeartbeats 4000000 in
theorem law_E {s : State} {b : Nat} (hts : ∀ w ∈ lw_tbl, w.before #[Value.ref b] s = true) (hgv : (Jvm.Cond.and given_1 narrow_1).before #[Value.ref b] s = true) : ∃ E : gEnv, gE E (fun q : Nat => s.heap.size ≤ q) s s.heap ∧ va_AO pcO s := by
  have hq := flat_of_before _ hgv
  have hA : ∀ a : Nat, a < s.heap.size → ¬ (fun q : Nat => s.heap.size ≤ q) a := fun a h => Nat.not_le.mpr h
  obtain ⟨c0, iS0, hKn0⟩ := u_known (C := RX0) (T := TX0) (N := 2) (n := 2) hts (by decide +kernel) (hts (.instantiable RX0 2) (by decide +kernel))
  obtain ⟨c1, iS1, hKn1⟩ := u_known (C := RX1) (T := TX1) (N := 2) (n := 2) hts (by decide +kernel) (hts (.instantiable RX1 2) (by decide +kernel))
  obtain ⟨c2, iS2, hKn2⟩ := u_known (C := RX2) (T := TX2) (N := 4) (n := 4) hts (by decide +kernel) (hts (.instantiable RX2 4) (by decide +kernel))
  obtain ⟨c3, iS3, hKn3⟩ := u_known (C := RX3) (T := TX3) (N := 4) (n := 4) hts (by decide +kernel) (hts (.instantiable RX3 4) (by decide +kernel))
  obtain ⟨c4, iS4, hKn4⟩ := u_known (C := RX4) (T := TX4) (N := 6) (n := 6) hts (by decide +kernel) (hts (.instantiable RX4 6) (by decide +kernel))
  obtain ⟨c5, iS5, hKn5⟩ := u_known (C := RX5) (T := TX5) (N := 14) (n := 14) hts (by decide +kernel) (hts (.instantiable RX5 14) (by decide +kernel))
  obtain ⟨cAI, kAI, cmI, a1I, a2I, a3I⟩ := Cond.arrayClass_spec (hts (.arrayClass .int) (by decide +kernel))
  obtain ⟨cAC, kAC, cmC, a1C, a2C, a3C⟩ := Cond.arrayClass_spec (hts (.arrayClass .char) (by decide +kernel))
  obtain ⟨cAZ, kAZ, cmZ, a1Z, a2Z, a3Z⟩ := Cond.arrayClass_spec (hts (.arrayClass .boolean) (by decide +kernel))
  obtain ⟨cAJ, kAJ, cmJ, a1J, a2J, a3J⟩ := Cond.arrayClass_spec (hts (.arrayClass .long) (by decide +kernel))
  have hao : va_AO pcO s := va_AO.of (hts (.arrayOver (.object pcO)) (by decide +kernel))
  obtain ⟨cmP, cAP, kAP, p1, p2, p3, p4, p5⟩ := Cond.arrayOver_spec hao
  obtain ⟨t0, ht0, hT0⟩ := va_Tof (tm := (Term.static "FlakePainter" "FIRST_NEIGHBOUR" "[I")) (ty := .int) (N := 5) (f := fun j => .int (zF j)) (A := fun q : Nat => s.heap.size ≤ q) (by omega) (hq (Cond.arrayOf (Term.static "FlakePainter" "FIRST_NEIGHBOUR" "[I") .int) (by decide +kernel)) (va_eqt (hq (Cond.eq (.length (Term.static "FlakePainter" "FIRST_NEIGHBOUR" "[I")) (.int (Int32.ofNat 5))) (by decide +kernel))) (fun j hj => by
    match j, hj with
    | 0, _ => exact va_eqt (hq (Cond.eq (.elem (Term.static "FlakePainter" "FIRST_NEIGHBOUR" "[I") (.int (Int32.ofNat 0))) (.int (zF 0))) (by decide +kernel))
    | 1, _ => exact va_eqt (hq (Cond.eq (.elem (Term.static "FlakePainter" "FIRST_NEIGHBOUR" "[I") (.int (Int32.ofNat 1))) (.int (zF 1))) (by decide +kernel))
    | 2, _ => exact va_eqt (hq (Cond.eq (.elem (Term.static "FlakePainter" "FIRST_NEIGHBOUR" "[I") (.int (Int32.ofNat 2))) (.int (zF 2))) (by decide +kernel))
    | 3, _ => exact va_eqt (hq (Cond.eq (.elem (Term.static "FlakePainter" "FIRST_NEIGHBOUR" "[I") (.int (Int32.ofNat 3))) (.int (zF 3))) (by decide +kernel))
    | 4, _ => exact va_eqt (hq (Cond.eq (.elem (Term.static "FlakePainter" "FIRST_NEIGHBOUR" "[I") (.int (Int32.ofNat 4))) (.int (zF 4))) (by decide +kernel))
    | n9 + 5, h9 => exact absurd h9 (by omega)) hA
  have hZ0 := va_Zof (hts (Cond.laysStatic "FlakePainter" "FIRST_NEIGHBOUR" "[I") (by decide +kernel)) (hts (Cond.initialized "FlakePainter") (by decide +kernel)) ht0 hA
  obtain ⟨t1, ht1, hT1⟩ := va_Tof (tm := (Term.static "FlakePainter" "DOWN" "[I")) (ty := .int) (N := 12) (f := fun j => .int (zD j)) (A := fun q : Nat => s.heap.size ≤ q) (by omega) (hq (Cond.arrayOf (Term.static "FlakePainter" "DOWN" "[I") .int) (by decide +kernel)) (va_eqt (hq (Cond.eq (.length (Term.static "FlakePainter" "DOWN" "[I")) (.int (Int32.ofNat 12))) (by decide +kernel))) (fun j hj => by
    match j, hj with
    | 0, _ => exact va_eqt (hq (Cond.eq (.elem (Term.static "FlakePainter" "DOWN" "[I") (.int (Int32.ofNat 0))) (.int (zD 0))) (by decide +kernel))
    | 1, _ => exact va_eqt (hq (Cond.eq (.elem (Term.static "FlakePainter" "DOWN" "[I") (.int (Int32.ofNat 1))) (.int (zD 1))) (by decide +kernel))
    | 2, _ => exact va_eqt (hq (Cond.eq (.elem (Term.static "FlakePainter" "DOWN" "[I") (.int (Int32.ofNat 2))) (.int (zD 2))) (by decide +kernel))
    | 3, _ => exact va_eqt (hq (Cond.eq (.elem (Term.static "FlakePainter" "DOWN" "[I") (.int (Int32.ofNat 3))) (.int (zD 3))) (by decide +kernel))
    | 4, _ => exact va_eqt (hq (Cond.eq (.elem (Term.static "FlakePainter" "DOWN" "[I") (.int (Int32.ofNat 4))) (.int (zD 4))) (by decide +kernel))
    | 5, _ => exact va_eqt (hq (Cond.eq (.elem (Term.static "FlakePainter" "DOWN" "[I") (.int (Int32.ofNat 5))) (.int (zD 5))) (by decide +kernel))
    | 6, _ => exact va_eqt (hq (Cond.eq (.elem (Term.static "FlakePainter" "DOWN" "[I") (.int (Int32.ofNat 6))) (.int (zD 6))) (by decide +kernel))
    | 7, _ => exact va_eqt (hq (Cond.eq (.elem (Term.static "FlakePainter" "DOWN" "[I") (.int (Int32.ofNat 7))) (.int (zD 7))) (by decide +kernel))
    | 8, _ => exact va_eqt (hq (Cond.eq (.elem (Term.static "FlakePainter" "DOWN" "[I") (.int (Int32.ofNat 8))) (.int (zD 8))) (by decide +kernel))
    | 9, _ => exact va_eqt (hq (Cond.eq (.elem (Term.static "FlakePainter" "DOWN" "[I") (.int (Int32.ofNat 9))) (.int (zD 9))) (by decide +kernel))
    | 10, _ => exact va_eqt (hq (Cond.eq (.elem (Term.static "FlakePainter" "DOWN" "[I") (.int (Int32.ofNat 10))) (.int (zD 10))) (by decide +kernel))
    | 11, _ => exact va_eqt (hq (Cond.eq (.elem (Term.static "FlakePainter" "DOWN" "[I") (.int (Int32.ofNat 11))) (.int (zD 11))) (by decide +kernel))
    | n9 + 12, h9 => exact absurd h9 (by omega)) hA
  have hZ1 := va_Zof (hts (Cond.laysStatic "FlakePainter" "DOWN" "[I") (by decide +kernel)) (hts (Cond.initialized "FlakePainter") (by decide +kernel)) ht1 hA
  obtain ⟨t2, ht2, hT2⟩ := va_Tof (tm := (Term.static "FlakePainter" "AHEAD" "[I")) (ty := .int) (N := 12) (f := fun j => .int (zA j)) (A := fun q : Nat => s.heap.size ≤ q) (by omega) (hq (Cond.arrayOf (Term.static "FlakePainter" "AHEAD" "[I") .int) (by decide +kernel)) (va_eqt (hq (Cond.eq (.length (Term.static "FlakePainter" "AHEAD" "[I")) (.int (Int32.ofNat 12))) (by decide +kernel))) (fun j hj => by
    match j, hj with
    | 0, _ => exact va_eqt (hq (Cond.eq (.elem (Term.static "FlakePainter" "AHEAD" "[I") (.int (Int32.ofNat 0))) (.int (zA 0))) (by decide +kernel))
    | 1, _ => exact va_eqt (hq (Cond.eq (.elem (Term.static "FlakePainter" "AHEAD" "[I") (.int (Int32.ofNat 1))) (.int (zA 1))) (by decide +kernel))
    | 2, _ => exact va_eqt (hq (Cond.eq (.elem (Term.static "FlakePainter" "AHEAD" "[I") (.int (Int32.ofNat 2))) (.int (zA 2))) (by decide +kernel))
    | 3, _ => exact va_eqt (hq (Cond.eq (.elem (Term.static "FlakePainter" "AHEAD" "[I") (.int (Int32.ofNat 3))) (.int (zA 3))) (by decide +kernel))
    | 4, _ => exact va_eqt (hq (Cond.eq (.elem (Term.static "FlakePainter" "AHEAD" "[I") (.int (Int32.ofNat 4))) (.int (zA 4))) (by decide +kernel))
    | 5, _ => exact va_eqt (hq (Cond.eq (.elem (Term.static "FlakePainter" "AHEAD" "[I") (.int (Int32.ofNat 5))) (.int (zA 5))) (by decide +kernel))
    | 6, _ => exact va_eqt (hq (Cond.eq (.elem (Term.static "FlakePainter" "AHEAD" "[I") (.int (Int32.ofNat 6))) (.int (zA 6))) (by decide +kernel))
    | 7, _ => exact va_eqt (hq (Cond.eq (.elem (Term.static "FlakePainter" "AHEAD" "[I") (.int (Int32.ofNat 7))) (.int (zA 7))) (by decide +kernel))
    | 8, _ => exact va_eqt (hq (Cond.eq (.elem (Term.static "FlakePainter" "AHEAD" "[I") (.int (Int32.ofNat 8))) (.int (zA 8))) (by decide +kernel))
    | 9, _ => exact va_eqt (hq (Cond.eq (.elem (Term.static "FlakePainter" "AHEAD" "[I") (.int (Int32.ofNat 9))) (.int (zA 9))) (by decide +kernel))
    | 10, _ => exact va_eqt (hq (Cond.eq (.elem (Term.static "FlakePainter" "AHEAD" "[I") (.int (Int32.ofNat 10))) (.int (zA 10))) (by decide +kernel))
    | 11, _ => exact va_eqt (hq (Cond.eq (.elem (Term.static "FlakePainter" "AHEAD" "[I") (.int (Int32.ofNat 11))) (.int (zA 11))) (by decide +kernel))
    | n9 + 12, h9 => exact absurd h9 (by omega)) hA
  have hZ2 := va_Zof (hts (Cond.laysStatic "FlakePainter" "AHEAD" "[I") (by decide +kernel)) (hts (Cond.initialized "FlakePainter") (by decide +kernel)) ht2 hA
  obtain ⟨t3, ht3, hT3⟩ := va_Tof (tm := (Term.static "FlakePainter" "WEIGHT" "[I")) (ty := .int) (N := 12) (f := fun j => .int (zW j)) (A := fun q : Nat => s.heap.size ≤ q) (by omega) (hq (Cond.arrayOf (Term.static "FlakePainter" "WEIGHT" "[I") .int) (by decide +kernel)) (va_eqt (hq (Cond.eq (.length (Term.static "FlakePainter" "WEIGHT" "[I")) (.int (Int32.ofNat 12))) (by decide +kernel))) (fun j hj => by
    match j, hj with
    | 0, _ => exact va_eqt (hq (Cond.eq (.elem (Term.static "FlakePainter" "WEIGHT" "[I") (.int (Int32.ofNat 0))) (.int (zW 0))) (by decide +kernel))
    | 1, _ => exact va_eqt (hq (Cond.eq (.elem (Term.static "FlakePainter" "WEIGHT" "[I") (.int (Int32.ofNat 1))) (.int (zW 1))) (by decide +kernel))
    | 2, _ => exact va_eqt (hq (Cond.eq (.elem (Term.static "FlakePainter" "WEIGHT" "[I") (.int (Int32.ofNat 2))) (.int (zW 2))) (by decide +kernel))
    | 3, _ => exact va_eqt (hq (Cond.eq (.elem (Term.static "FlakePainter" "WEIGHT" "[I") (.int (Int32.ofNat 3))) (.int (zW 3))) (by decide +kernel))
    | 4, _ => exact va_eqt (hq (Cond.eq (.elem (Term.static "FlakePainter" "WEIGHT" "[I") (.int (Int32.ofNat 4))) (.int (zW 4))) (by decide +kernel))
    | 5, _ => exact va_eqt (hq (Cond.eq (.elem (Term.static "FlakePainter" "WEIGHT" "[I") (.int (Int32.ofNat 5))) (.int (zW 5))) (by decide +kernel))
    | 6, _ => exact va_eqt (hq (Cond.eq (.elem (Term.static "FlakePainter" "WEIGHT" "[I") (.int (Int32.ofNat 6))) (.int (zW 6))) (by decide +kernel))
    | 7, _ => exact va_eqt (hq (Cond.eq (.elem (Term.static "FlakePainter" "WEIGHT" "[I") (.int (Int32.ofNat 7))) (.int (zW 7))) (by decide +kernel))
    | 8, _ => exact va_eqt (hq (Cond.eq (.elem (Term.static "FlakePainter" "WEIGHT" "[I") (.int (Int32.ofNat 8))) (.int (zW 8))) (by decide +kernel))
    | 9, _ => exact va_eqt (hq (Cond.eq (.elem (Term.static "FlakePainter" "WEIGHT" "[I") (.int (Int32.ofNat 9))) (.int (zW 9))) (by decide +kernel))
    | 10, _ => exact va_eqt (hq (Cond.eq (.elem (Term.static "FlakePainter" "WEIGHT" "[I") (.int (Int32.ofNat 10))) (.int (zW 10))) (by decide +kernel))
    | 11, _ => exact va_eqt (hq (Cond.eq (.elem (Term.static "FlakePainter" "WEIGHT" "[I") (.int (Int32.ofNat 11))) (.int (zW 11))) (by decide +kernel))
    | n9 + 12, h9 => exact absurd h9 (by omega)) hA
  have hZ3 := va_Zof (hts (Cond.laysStatic "FlakePainter" "WEIGHT" "[I") (by decide +kernel)) (hts (Cond.initialized "FlakePainter") (by decide +kernel)) ht3 hA
  obtain ⟨s0, _, _, _, q0, _⟩ := Cond.exactly_spec (hq (Cond.exactly (.string RX4 206) "java/lang/String") (by decide +kernel))
  obtain ⟨s1, _, _, _, q1, _⟩ := Cond.exactly_spec (hq (Cond.exactly (.string RX4 213) "java/lang/String") (by decide +kernel))
  obtain ⟨s2, _, _, _, q2, _⟩ := Cond.exactly_spec (hq (Cond.exactly (.string RX4 218) "java/lang/String") (by decide +kernel))
  refine ⟨((fun k => ([c0, c1, c2, c3, c4, c5] : List ClassId).getD k 0, fun k => ([iS0, iS1, iS2, iS3, iS4, iS5] : List (Nat → Nat)).getD k (fun _ => 0)), fun k => ([cAI, cAC, cAZ, cAP, cAJ] : List ClassId).getD k 0, fun k => ([t0, t1, t2, t3, s0, s1, s2] : List Nat).getD k 0), ⟨⟨?_, ?_⟩, ⟨⟨hZ0, hT0⟩, ⟨hZ1, hT1⟩, ⟨hZ2, hT2⟩, ⟨hZ3, hT3⟩⟩, ⟨?_, ?_, ?_, ?_, ?_, ?_⟩, ⟨?_, ?_, ?_⟩, ⟨?_, ?_⟩, ⟨?_, ?_, ?_, ?_, ?_, ?_, ?_, ?_, ?_⟩⟩, hao⟩
  · intro k q h
    match k, h with
    | 0, h => cases h; exact hKn0
    | 1, h => cases h; exact hKn1
    | 2, h => cases h; exact hKn2
    | 3, h => cases h; exact hKn3
    | 4, h => cases h; exact hKn4
    | 5, h => cases h; exact hKn5
    | k + 6, h => simp [vwCl] at h
  · intro k q h
    match k, h with
    | 0, h => cases h; exact ⟨fun n z => ⟨fun k h => (by cases h), kAI, a2I, cmI, a3I⟩, a1I⟩
    | 1, h => cases h; exact ⟨fun n z => ⟨fun k h => (by cases h), kAC, a2C, cmC, a3C⟩, a1C⟩
    | 2, h => cases h; exact ⟨fun n z => ⟨fun k h => (by cases h), kAZ, a2Z, cmZ, a3Z⟩, a1Z⟩
    | 3, h => cases h; exact ⟨fun n z => ⟨fun k h => (by cases h), kAP, p3, cmP, p4⟩, ⟨kAP, cmP, p3, p4, p1, p5⟩⟩
    | 4, h => cases h; exact ⟨fun n z => ⟨fun k h => (by cases h), kAJ, a2J, cmJ, a3J⟩, a1J⟩
    | k + 5, h => simp [gTys] at h
  · exact va_Nw.of rfl (hts (.fieldLinkNest RX2 56 "FlakePainter" "FIRST_NEIGHBOUR" "[I" "FlakePainter") (by decide +kernel))
  · exact va_Nw.of rfl (hts (.fieldLinkNest RX2 66 "FlakePainter" "DOWN" "[I" "FlakePainter") (by decide +kernel))
  · exact va_Nw.of rfl (hts (.fieldLinkNest RX2 69 "FlakePainter" "AHEAD" "[I" "FlakePainter") (by decide +kernel))
  · exact va_Nw.of rfl (hts (.methodLinkNest RX2 59 yX4_shareOf "FlakePainter") (by decide +kernel))
  · exact va_Nw.of rfl (hts (.methodLinkNest RX2 63 yX4_cellTowards "FlakePainter") (by decide +kernel))
  · exact va_Nw.of rfl (hts (.methodLinkNest RX2 72 yX4_cellIn "FlakePainter") (by decide +kernel))
  · exact vk_R.of (hts (.stringRef RX4 206 "there is no such cell, row, step, square or slot") (by decide +kernel)) q0
  · exact vk_R.of (hts (.stringRef RX4 213 "an argument is out of range") (by decide +kernel)) q1
  · exact vk_R.of (hts (.stringRef RX4 218 "the painter's state does not allow this call") (by decide +kernel)) q2
  · exact vx_Zqof (hts (Cond.laysStatic Bundle.tN "UNASSIGNED_STACK" Bundle.steD) (by decide +kernel)) (hts (Cond.initialized Bundle.tN) (by decide +kernel)) (hq (Cond.isRef (.static Bundle.tN "UNASSIGNED_STACK" Bundle.steD)) (by decide +kernel)) hA
  · exact vx_Zqof (hts (Cond.laysStatic Bundle.tN "SUPPRESSED_SENTINEL" Bundle.listD) (by decide +kernel)) (hts (Cond.initialized Bundle.tN) (by decide +kernel)) (hq (Cond.isRef (.static Bundle.tN "SUPPRESSED_SENTINEL" Bundle.listD)) (by decide +kernel)) hA
  · exact va_Nw.of rfl (hts (.castable xIdx xIdx) (by decide +kernel))
  · exact va_Nw.of rfl (hts (.castable xArg xArg) (by decide +kernel))
  · exact va_Nw.of rfl (hts (.castable xSta xSta) (by decide +kernel))
  · exact va_Nc.of (hq (.not (.castable xArg xIdx)) (by decide +kernel))
  · exact va_Nc.of (hq (.not (.castable xSta xArg)) (by decide +kernel))
  · exact va_Nc.of (hq (.not (.castable xSta xIdx)) (by decide +kernel))
  · exact va_Nw.of rfl (hts (.declares ⟨"java/lang/RuntimeException", "<init>", "(Ljava/lang/String;)V"⟩) (by decide +kernel))
  · exact va_Nw.of rfl (hts (.declares ⟨"java/lang/Exception", "<init>", "(Ljava/lang/String;)V"⟩) (by decide +kernel))
  · exact va_Nw.of rfl (hts (.declares ⟨"java/lang/Throwable", "<init>", "(Ljava/lang/String;)V"⟩) (by decide +kernel))
