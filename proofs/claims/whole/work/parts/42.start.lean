/-! THE CLAIM OUT OF ONE WALK OF THE LAW'S BODY. Your part is whole_start (and what it stands on); all else here is the same for every law, but numbers. -/
def R_law : String := "FlakePainterLaw"
def lw_P (b : Addr) (xs : List Int32) (args : Array Value) (s : State) : Prop := args = #[.ref b] ∧ s.IntsAt b xs ∧ xs.length ≤ 2560 ∧ (Jvm.Cond.and given_1 narrow_1).before args s = true
/-- what a walk over the start with the record d0 says of its end, said of the start itself -/
theorem lw_closed {s t : State} {o : Outcome} {d0 : Drawn} {L : List Loc} {k n : Nat} (hd0 : s.drawn.sameBut d0 lw_cs) (hv : ∃ v, o = .returned v) (hW : (s.setDrawn d0).WarmedH t.vm) (hs : (s.setDrawn d0).sameButNew ({ t with vm := s.vm } : State) L k n) : State.butDraws s t lw_cs (fun t1 => Framed s o t1 L k n) := by
  have h2 : t.drawn = d0 := congrArg State.drawn hs.1
  refine ⟨⟨hv, hW, State.sameButNew.setDrawn hs s.drawn⟩, ?_, by decide⟩
  rw [h2]
  exact hd0
def lw_Q (_ : Array Value) (s : State) (o : Outcome) (t : State) : Prop := o = .returned (some (.int 1)) ∧ State.butDraws s t lw_cs (fun t1 => Framed s o t1 [] 601024 7293034)
def lw_Z (below : List Frame) (a : Array Value) (s : State) : State → Prop := fun t => ∃ o, t.status = .running ∧ Ended t below o ∧ lw_Q a s o t
/-- the law's own end, with 1 on the stack, nothing written that was there before, its room as the claim has it; d0: the record of draws at this point (at the entry s.drawn: begin with 'refine W.base ?_' and 'have hd0 := Drawn.sameBut.refl s.drawn lw_cs') -/
theorem lw_ret {p : Program} {l : Launch} {e : Env} {s : State} {m : MethodId} {below : List Frame} {meth : Method} {c : Code} {b : Nat} {d0 : Drawn} (hd0 : s.drawn.sameBut d0 lw_cs) (hx : p.tables.exec = Jvm.exec) (hb : c.code = code) (hr : meth.sig.returnType = ret) (hlocks : meth.locks = false) {pc : Nat} {H : Heap} {ls : Array Slot} (hdg : decode code pc = .ok (.ireturn, 1)) : W p l e room_1 (s.setDrawn d0) m #[Value.ref b] below meth c H [] 601024 7293034 (lw_Z below #[Value.ref b] s) (F0 m pc ls [.int 1]) := by
  intro T hT X
  obtain ⟨fs, hret, hrun, hended, hW, hframe⟩ := X.leave (v := some (.int 1)) (hlocks := hlocks) (fun h => by rw [hr] at h; cases h)
  have hmeth' : T.vm.method? m = some meth := X.method'
  refine ⟨T.setFrames fs, ?_, .returned (some (.int 1)), hrun, hended, rfl, lw_closed hd0 ⟨_, rfl⟩ hW hframe⟩
  jvm_step X.here [X.here.top, hx, hb, hdg, hmeth', hr, ret, narrow_b1]
  (try refine ⟨rfl, ?_⟩); (try refine ⟨rfl, ?_⟩)
  first | (intro acts; rw [hret _ acts rfl rfl rfl]) | rw [hret _ _ rfl rfl rfl]
  exact Steps.refl _
/-- what holds at the law's entry: the machine, the code, the tables' words (any of lw_tbl by 'hts w (by decide +kernel)'), the script of L ints xs at the cell b, what the Statement gives of the start (any of its parts by flat_of_before) -/
def lw_At (p : Program) (s : State) (m : MethodId) (meth : Method) (c : Code) (b L : Nat) (xs : Nat → Int32) : Prop :=
  p.tables.exec = Jvm.exec ∧ c.code = code ∧ meth.sig.returnType = ret ∧ c.maxLocals = 9 ∧ s.vm.findClass R_law = some m.cls ∧ (∀ w ∈ lw_tbl, w.before #[Value.ref b] s = true) ∧ va_X b L xs s s.heap ∧ b < s.heap.size ∧ meth.locks = false ∧ (Jvm.Cond.and given_1 narrow_1).before #[Value.ref b] s = true
/-- the two states at the start belong together -/
theorem nw0_at {j : Nat} (h1 : ¬ j = 64) (h2 : ¬ j = 65) : (upd (upd (fun _ => nI 0) 64 (nI 2)) 65 (nI 128)) j = nI 0 := by unfold upd; rw [if_neg h2, if_neg h1]
theorem ok_0 : okA (upd (upd (fun _ => nI 0) 64 (nI 2)) 65 (nI 128)) := ⟨fun j hj => by rw [nw0_at (by omega) (by omega)]; decide +kernel, ⟨2, by omega, rfl⟩, by decide +kernel, false, by decide +kernel⟩
theorem rel_0 : Rel (upd (upd (fun _ => nI 0) 64 (nI 2)) 65 (nI 128)) (fun _ => nI 0) (fun _ => nI 0) (fun _ => nI 0) (fun _ => 0) 0 0 0 (fun _ => nI 0) (nI 2) (nI 128) false (fun _ _ => nI 0) (fun _ => nI 2) (fun _ => nI 128) (fun _ => false) (fun _ _ => nI 0) (fun _ => nI 2) (fun _ => nI 128) (fun _ => false) (fun _ => false) :=
  ⟨ok_0, ⟨fun j hj => (nw0_at (by omega) (by omega)).symm, rfl, rfl, by decide +kernel⟩, by omega, fun k hk => absurd hk (Nat.not_lt_zero _), fun k hk => ⟨gB_f, fun z => absurd z Bool.false_ne_true⟩, by omega, fun _ => (show 0 < 128 by omega)⟩
set_option maxRecDepth 100000 in
set_option maxHeartbeats 8000000 in
theorem whole_start {p : Program} {e : Env} {s : State} {m : MethodId} {below : List Frame} {meth : Method} {c : Code} (l : Launch) (hflags : l.flags = flags0) {b L : Nat} {xs : Nat → Int32} (hL : L ≤ 2560) (C0 : lw_At p s m meth c b L xs) : W p l e room_1 s m #[Value.ref b] below meth c s.heap [] 0 0 (lw_Z below #[Value.ref b] s) (entryFrame m ([Value.ref b] : List Value).toArray 9) := by
  obtain ⟨hx, hb, hr, hml, hown, hts, hX, hbl, hlocks, hgv⟩ := id C0
  have hl0 : l.stackTraces = false := by unfold Launch.stackTraces; rw [hflags]; decide +kernel
  have hbA : ¬ (fun q : Nat => s.heap.size ≤ q) b := Nat.not_le.mpr hbl
  obtain ⟨E, hE, hao⟩ := law_E hts hgv
  have hw9 : ∀ w ∈ wsL_law, w.before #[Value.ref b] s = true := fun w h => hts w (wsL_law_in w h)
  have cx : gC p s m #[Value.ref b] meth c cL_law 9 RL (some .boolean) wsL_law E (fun q : Nat => s.heap.size ≤ q) := ⟨hx, hb, hml, hown, hw9, hE, fun q h => h, hr, hlocks⟩
  have hd0 := Drawn.sameBut.refl s.drawn lw_cs
  have hiX4 : ∀ w ∈ u_ws RX4 TX4 6, w ∈ wsL_law := by decide +kernel
  have hiX5 : ∀ w ∈ u_ws RX5 TX5 14, w ∈ wsL_law := by decide +kernel
  have Kend : ∀ (cells slots : Nat) (ws : va_W) (lv : List (Nat × Value)), cells ≤ room_1.cells → slots ≤ room_1.slots → gG p l e room_1 s m #[Value.ref b] below meth c 9 E (fun q : Nat => s.heap.size ≤ q) (lw_Z below #[Value.ref b] s) cells slots ws lv [] 1498 := by
    intro cells slots ws lv h1 h2 H locs ls hP hD hS hl
    refine lv_iconst (v := 1) hx hb dL_law_1498 (by decide) ?_
    refine W.widen (k := 601024) (n := 7293034) h1 h2 ?_
    refine va_forget (fun q hq => hS.2.2 q hq) ?_
    exact lw_ret (d0 := s.drawn) hd0 hx hb hr hlocks dL_law_1499
  have body : gG p l e room_1 s m #[Value.ref b] below meth c 9 E (fun q : Nat => s.heap.size ≤ q) (lw_Z below #[Value.ref b] s) 0 0 [] [(0, .ref b)] [] 0 := by
    refine g_new (fs := [.null, .null, .null, .null, .null, .null]) (C := RX4) (T := TX4) (N := 6) (ci := 4) cx hiX4 tyX4 tyX4_ok (by decide +kernel) (by decide +kernel) (by decide +kernel) rfl (fun j hj => by match j, hj with | 0, _ => rfl | 1, _ => rfl | 2, _ => rfl | 3, _ => rfl | 4, _ => rfl | 5, _ => rfl | n9 + 6, h9 => exact absurd h9 (by omega)) (Nat.le_of_ble_eq_true rfl) (Nat.le_of_ble_eq_true rfl) dL_law_0 ?_
    intro hx
    refine g_dup cx dL_law_3 rfl ?_
    refine g_callI (wr := []) (rest := [.ref hx]) cx (c_X4_init l E hx) hao gL_law_X4_init rfl rfl rfl (by decide +kernel) (by decide +kernel) (by decide +kernel) rfl (by decide +kernel) ⟨(Nat.le_of_ble_eq_true rfl), (Nat.le_of_ble_eq_true rfl)⟩ ⟨(Nat.le_of_ble_eq_true rfl), (Nat.le_of_ble_eq_true rfl)⟩ 0 [] rfl rfl (by decide) (by decide) rfl (Nat.le_of_ble_eq_true rfl) dL_law_4 ?_
    rintro _ ⟨hp, ap, hg, gv, ge, hh, st, q0, a0, q1, a1, q2, a2, q3, a3, q4, a4, q5, a5, hsl, z0, u0, z1, u1, hsv, htx, hc, rfl⟩
    refine g_ws (ws' := [(hx, .inr (4, [.ref hp, .ref hg, .ref hh, .ref hsl, .ref hsv, .ref htx])), (hp, .inr (3, [.ref ap, .int (nI 2), .int (nI 128), .int (gB false)])), (ap, .inl (E.2.1 0, 64, .inl (fun _ => nI 0))), (hg, .inr (2, [.ref gv, .ref ge, .long 0, .int (nI 0)])), (gv, .inl (E.2.1 0, 64, .inl (fun _ => nI 0))), (ge, .inl (E.2.1 0, 64, .inl (fun _ => nI 0))), (hh, .inr (1, [.ref st, .int (nI 0)])), (st, .inl (E.2.1 3, 6, .inr (.inr (.inr (.inr (fun k => some (([q0, q1, q2, q3, q4, q5] : List Nat).getD ((k + 0) % 6) 0))))))), (q0, .inr (3, [.ref a0, .int (nI 2), .int (nI 128), .int (gB false)])), (a0, .inl (E.2.1 0, 64, .inl (fun _ => nI 0))), (q1, .inr (3, [.ref a1, .int (nI 2), .int (nI 128), .int (gB false)])), (a1, .inl (E.2.1 0, 64, .inl (fun _ => nI 0))), (q2, .inr (3, [.ref a2, .int (nI 2), .int (nI 128), .int (gB false)])), (a2, .inl (E.2.1 0, 64, .inl (fun _ => nI 0))), (q3, .inr (3, [.ref a3, .int (nI 2), .int (nI 128), .int (gB false)])), (a3, .inl (E.2.1 0, 64, .inl (fun _ => nI 0))), (q4, .inr (3, [.ref a4, .int (nI 2), .int (nI 128), .int (gB false)])), (a4, .inl (E.2.1 0, 64, .inl (fun _ => nI 0))), (q5, .inr (3, [.ref a5, .int (nI 2), .int (nI 128), .int (gB false)])), (a5, .inl (E.2.1 0, 64, .inl (fun _ => nI 0))), (hsl, .inl (E.2.1 3, 2, .inr (.inr (.inr (.inr (fun k => some (([z0, z1] : List Nat).getD k 0))))))), (z0, .inr (3, [.ref u0, .int (nI 2), .int (nI 128), .int (gB false)])), (u0, .inl (E.2.1 0, 64, .inl (fun _ => nI 0))), (z1, .inr (3, [.ref u1, .int (nI 2), .int (nI 128), .int (gB false)])), (u1, .inl (E.2.1 0, 64, .inl (fun _ => nI 0))), (hsv, .inl (E.2.1 2, 2, .inl (fun j => gB ((fun _ => false) j)))), (htx, .inr (0, [.ref hc, .int (nI 0)])), (hc, .inl (E.2.1 1, 80, .inl (fun j => nI ((fun _ => 0) j))))]) rfl ?_
    refine g_astore_n (lv' := [(1, .ref hx), (0, .ref b)]) cx dL_law_7 rfl (by decide) rfl ?_
    refine g_new (fs := [.null, .null, .null, .null, .int (nI 0), .null, .int (nI 0), .int (nI 0), .int (nI 0), .null, .int (nI 0), .null, .null, .int (nI 0)]) (C := RX5) (T := TX5) (N := 14) (ci := 5) cx hiX5 tyX5 tyX5_ok (by decide +kernel) (by decide +kernel) (by decide +kernel) rfl (fun j hj => by match j, hj with | 0, _ => rfl | 1, _ => rfl | 2, _ => rfl | 3, _ => rfl | 4, _ => rfl | 5, _ => rfl | 6, _ => rfl | 7, _ => rfl | 8, _ => rfl | 9, _ => rfl | 10, _ => rfl | 11, _ => rfl | 12, _ => rfl | 13, _ => rfl | n9 + 14, h9 => exact absurd h9 (by omega)) (Nat.le_of_ble_eq_true rfl) (Nat.le_of_ble_eq_true rfl) dL_law_8 ?_
    intro h
    refine g_dup cx dL_law_11 rfl ?_
    refine g_callI (wr := [(hx, .inr (4, [.ref hp, .ref hg, .ref hh, .ref hsl, .ref hsv, .ref htx])), (hp, .inr (3, [.ref ap, .int (nI 2), .int (nI 128), .int (gB false)])), (ap, .inl (E.2.1 0, 64, .inl (fun _ => nI 0))), (hg, .inr (2, [.ref gv, .ref ge, .long 0, .int (nI 0)])), (gv, .inl (E.2.1 0, 64, .inl (fun _ => nI 0))), (ge, .inl (E.2.1 0, 64, .inl (fun _ => nI 0))), (hh, .inr (1, [.ref st, .int (nI 0)])), (st, .inl (E.2.1 3, 6, .inr (.inr (.inr (.inr (fun k => some (([q0, q1, q2, q3, q4, q5] : List Nat).getD ((k + 0) % 6) 0))))))), (q0, .inr (3, [.ref a0, .int (nI 2), .int (nI 128), .int (gB false)])), (a0, .inl (E.2.1 0, 64, .inl (fun _ => nI 0))), (q1, .inr (3, [.ref a1, .int (nI 2), .int (nI 128), .int (gB false)])), (a1, .inl (E.2.1 0, 64, .inl (fun _ => nI 0))), (q2, .inr (3, [.ref a2, .int (nI 2), .int (nI 128), .int (gB false)])), (a2, .inl (E.2.1 0, 64, .inl (fun _ => nI 0))), (q3, .inr (3, [.ref a3, .int (nI 2), .int (nI 128), .int (gB false)])), (a3, .inl (E.2.1 0, 64, .inl (fun _ => nI 0))), (q4, .inr (3, [.ref a4, .int (nI 2), .int (nI 128), .int (gB false)])), (a4, .inl (E.2.1 0, 64, .inl (fun _ => nI 0))), (q5, .inr (3, [.ref a5, .int (nI 2), .int (nI 128), .int (gB false)])), (a5, .inl (E.2.1 0, 64, .inl (fun _ => nI 0))), (hsl, .inl (E.2.1 3, 2, .inr (.inr (.inr (.inr (fun k => some (([z0, z1] : List Nat).getD k 0))))))), (z0, .inr (3, [.ref u0, .int (nI 2), .int (nI 128), .int (gB false)])), (u0, .inl (E.2.1 0, 64, .inl (fun _ => nI 0))), (z1, .inr (3, [.ref u1, .int (nI 2), .int (nI 128), .int (gB false)])), (u1, .inl (E.2.1 0, 64, .inl (fun _ => nI 0))), (hsv, .inl (E.2.1 2, 2, .inl (fun j => gB ((fun _ => false) j)))), (htx, .inr (0, [.ref hc, .int (nI 0)])), (hc, .inl (E.2.1 1, 80, .inl (fun j => nI ((fun _ => 0) j))))]) (rest := [.ref h]) cx (c_X5_init l E h) hao gL_law_X5_init rfl rfl rfl (by decide +kernel) (by decide +kernel) (by decide +kernel) rfl (by decide +kernel) ⟨(Nat.le_of_ble_eq_true rfl), (Nat.le_of_ble_eq_true rfl)⟩ ⟨(Nat.le_of_ble_eq_true rfl), (Nat.le_of_ble_eq_true rfl)⟩ 28 [0, 1, 2, 3, 4, 5, 6, 7, 8, 9, 10, 11, 12, 13, 14, 15, 16, 17, 18, 19, 20, 21, 22, 23, 24, 25, 26, 27] rfl rfl (by decide) (by decide) rfl (Nat.le_of_ble_eq_true rfl) dL_law_12 ?_
    rintro _ ⟨an, ap_, asl, ah, ax, atd, av, ae, rfl⟩
    refine g_ws (ws' := [(hx, .inr (4, [.ref hp, .ref hg, .ref hh, .ref hsl, .ref hsv, .ref htx])), (hp, .inr (3, [.ref ap, .int (nI 2), .int (nI 128), .int (gB false)])), (ap, .inl (E.2.1 0, 64, .inl (fun _ => nI 0))), (hg, .inr (2, [.ref gv, .ref ge, .long 0, .int (nI 0)])), (gv, .inl (E.2.1 0, 64, .inl (fun _ => nI 0))), (ge, .inl (E.2.1 0, 64, .inl (fun _ => nI 0))), (hh, .inr (1, [.ref st, .int (nI 0)])), (st, .inl (E.2.1 3, 6, .inr (.inr (.inr (.inr (fun k => some (([q0, q1, q2, q3, q4, q5] : List Nat).getD ((k + 0) % 6) 0))))))), (q0, .inr (3, [.ref a0, .int (nI 2), .int (nI 128), .int (gB false)])), (a0, .inl (E.2.1 0, 64, .inl (fun _ => nI 0))), (q1, .inr (3, [.ref a1, .int (nI 2), .int (nI 128), .int (gB false)])), (a1, .inl (E.2.1 0, 64, .inl (fun _ => nI 0))), (q2, .inr (3, [.ref a2, .int (nI 2), .int (nI 128), .int (gB false)])), (a2, .inl (E.2.1 0, 64, .inl (fun _ => nI 0))), (q3, .inr (3, [.ref a3, .int (nI 2), .int (nI 128), .int (gB false)])), (a3, .inl (E.2.1 0, 64, .inl (fun _ => nI 0))), (q4, .inr (3, [.ref a4, .int (nI 2), .int (nI 128), .int (gB false)])), (a4, .inl (E.2.1 0, 64, .inl (fun _ => nI 0))), (q5, .inr (3, [.ref a5, .int (nI 2), .int (nI 128), .int (gB false)])), (a5, .inl (E.2.1 0, 64, .inl (fun _ => nI 0))), (hsl, .inl (E.2.1 3, 2, .inr (.inr (.inr (.inr (fun k => some (([z0, z1] : List Nat).getD k 0))))))), (z0, .inr (3, [.ref u0, .int (nI 2), .int (nI 128), .int (gB false)])), (u0, .inl (E.2.1 0, 64, .inl (fun _ => nI 0))), (z1, .inr (3, [.ref u1, .int (nI 2), .int (nI 128), .int (gB false)])), (u1, .inl (E.2.1 0, 64, .inl (fun _ => nI 0))), (hsv, .inl (E.2.1 2, 2, .inl (fun j => gB ((fun _ => false) j)))), (htx, .inr (0, [.ref hc, .int (nI 0)])), (hc, .inl (E.2.1 1, 80, .inl (fun j => nI ((fun _ => 0) j)))), (h, .inr (5, [.ref an, .ref ap_, .ref asl, .ref ah, .int (nI 0), .ref ax, .int (nI 0), .int (nI 0), .int (nI 0), .ref atd, .int (nI 0), .ref av, .ref ae, .int (nI 0)])), (an, .inl (E.2.1 0, 67, .inl (upd (upd (fun _ => nI 0) 64 (nI 2)) 65 (nI 128)))), (ap_, .inl (E.2.1 0, 402, .inl (fun _ => nI 0))), (asl, .inl (E.2.1 0, 134, .inl (fun _ => nI 0))), (ah, .inl (E.2.1 0, 2, .inl (fun _ => nI 0))), (ax, .inl (E.2.1 0, 80, .inl (fun _ => nI 0))), (atd, .inl (E.2.1 0, 123, .inl (fun _ => nI 0))), (av, .inl (E.2.1 0, 64, .inl (fun _ => nI 0))), (ae, .inl (E.2.1 0, 64, .inl (fun _ => nI 0)))]) rfl ?_
    refine g_astore_n (lv' := [(2, .ref h), (1, .ref hx), (0, .ref b)]) cx dL_law_15 rfl (by decide) rfl ?_
    refine g_iconst cx dL_law_16 kc_i1 ?_
    refine g_newa (k := 4) (a0 := (1, .inr (.inl (fun _ => 0)))) (atype := .long) (ty := .long) (N' := 1) cx (by decide +kernel) rfl rfl (fun _ _ h => h) (fun cA => by rfl) (by decide +kernel) (by decide +kernel) (by decide +kernel) (Nat.le_of_ble_eq_true rfl) (Nat.le_of_ble_eq_true rfl) dL_law_17 ?_
    intro ao
    refine g_astore_n (lv' := [(3, .ref ao), (2, .ref h), (1, .ref hx), (0, .ref b)]) cx dL_law_19 rfl (by decide) rfl ?_
    refine g_iconst cx dL_law_20 kc_i0 ?_
    refine g_istore (lv' := [(4, .int (nI 0)), (3, .ref ao), (2, .ref h), (1, .ref hx), (0, .ref b)]) cx dL_law_21 (by decide) rfl ?_
    refine g_sub (ws' := [(hx, .inr (4, [.ref hp, .ref hg, .ref hh, .ref hsl, .ref hsv, .ref htx])), (hp, .inr (3, [.ref ap, .int (nI 2), .int (nI 128), .int (gB false)])), (ap, .inl (E.2.1 0, 64, .inl (fun _ => nI 0))), (hg, .inr (2, [.ref gv, .ref ge, .long 0, .int (nI 0)])), (gv, .inl (E.2.1 0, 64, .inl (fun _ => nI 0))), (ge, .inl (E.2.1 0, 64, .inl (fun _ => nI 0))), (hh, .inr (1, [.ref st, .int (nI 0)])), (st, .inl (E.2.1 3, 6, .inr (.inr (.inr (.inr (fun k => some ((fun k => ([q0, q1, q2, q3, q4, q5] : List Nat).getD k 0) ((k + 0) % 6)))))))), ((fun k => ([q0, q1, q2, q3, q4, q5] : List Nat).getD k 0) 0, .inr (3, [.ref ((fun k => ([a0, a1, a2, a3, a4, a5] : List Nat).getD k 0) 0), .int ((fun _ => nI 2) 0), .int ((fun _ => nI 128) 0), .int (gB ((fun _ => false) 0))])), ((fun k => ([a0, a1, a2, a3, a4, a5] : List Nat).getD k 0) 0, .inl (E.2.1 0, 64, .inl ((fun _ _ => nI 0) 0))), ((fun k => ([q0, q1, q2, q3, q4, q5] : List Nat).getD k 0) 1, .inr (3, [.ref ((fun k => ([a0, a1, a2, a3, a4, a5] : List Nat).getD k 0) 1), .int ((fun _ => nI 2) 1), .int ((fun _ => nI 128) 1), .int (gB ((fun _ => false) 1))])), ((fun k => ([a0, a1, a2, a3, a4, a5] : List Nat).getD k 0) 1, .inl (E.2.1 0, 64, .inl ((fun _ _ => nI 0) 1))), ((fun k => ([q0, q1, q2, q3, q4, q5] : List Nat).getD k 0) 2, .inr (3, [.ref ((fun k => ([a0, a1, a2, a3, a4, a5] : List Nat).getD k 0) 2), .int ((fun _ => nI 2) 2), .int ((fun _ => nI 128) 2), .int (gB ((fun _ => false) 2))])), ((fun k => ([a0, a1, a2, a3, a4, a5] : List Nat).getD k 0) 2, .inl (E.2.1 0, 64, .inl ((fun _ _ => nI 0) 2))), ((fun k => ([q0, q1, q2, q3, q4, q5] : List Nat).getD k 0) 3, .inr (3, [.ref ((fun k => ([a0, a1, a2, a3, a4, a5] : List Nat).getD k 0) 3), .int ((fun _ => nI 2) 3), .int ((fun _ => nI 128) 3), .int (gB ((fun _ => false) 3))])), ((fun k => ([a0, a1, a2, a3, a4, a5] : List Nat).getD k 0) 3, .inl (E.2.1 0, 64, .inl ((fun _ _ => nI 0) 3))), ((fun k => ([q0, q1, q2, q3, q4, q5] : List Nat).getD k 0) 4, .inr (3, [.ref ((fun k => ([a0, a1, a2, a3, a4, a5] : List Nat).getD k 0) 4), .int ((fun _ => nI 2) 4), .int ((fun _ => nI 128) 4), .int (gB ((fun _ => false) 4))])), ((fun k => ([a0, a1, a2, a3, a4, a5] : List Nat).getD k 0) 4, .inl (E.2.1 0, 64, .inl ((fun _ _ => nI 0) 4))), ((fun k => ([q0, q1, q2, q3, q4, q5] : List Nat).getD k 0) 5, .inr (3, [.ref ((fun k => ([a0, a1, a2, a3, a4, a5] : List Nat).getD k 0) 5), .int ((fun _ => nI 2) 5), .int ((fun _ => nI 128) 5), .int (gB ((fun _ => false) 5))])), ((fun k => ([a0, a1, a2, a3, a4, a5] : List Nat).getD k 0) 5, .inl (E.2.1 0, 64, .inl ((fun _ _ => nI 0) 5))), (hsl, .inl (E.2.1 3, 2, .inr (.inr (.inr (.inr (fun k => some ((fun k => ([z0, z1] : List Nat).getD k 0) k))))))), (hsv, .inl (E.2.1 2, 2, .inl (fun j => gB ((fun _ => false) j)))), ((fun k => ([z0, z1] : List Nat).getD k 0) 0, .inr (3, [.ref ((fun k => ([u0, u1] : List Nat).getD k 0) 0), .int ((fun _ => nI 2) 0), .int ((fun _ => nI 128) 0), .int (gB ((fun _ => false) 0))])), ((fun k => ([u0, u1] : List Nat).getD k 0) 0, .inl (E.2.1 0, 64, .inl ((fun _ _ => nI 0) 0))), ((fun k => ([z0, z1] : List Nat).getD k 0) 1, .inr (3, [.ref ((fun k => ([u0, u1] : List Nat).getD k 0) 1), .int ((fun _ => nI 2) 1), .int ((fun _ => nI 128) 1), .int (gB ((fun _ => false) 1))])), ((fun k => ([u0, u1] : List Nat).getD k 0) 1, .inl (E.2.1 0, 64, .inl ((fun _ _ => nI 0) 1))), (htx, .inr (0, [.ref hc, .int (nI 0)])), (hc, .inl (E.2.1 1, 80, .inl (fun j => nI ((fun _ => 0) j)))), (h, .inr (5, [.ref an, .ref ap_, .ref asl, .ref ah, .int (nI 0), .ref ax, .int (nI 0), .int (nI 0), .int (nI 0), .ref atd, .int (nI 0), .ref av, .ref ae, .int (nI 0)])), (an, .inl (E.2.1 0, 67, .inl (upd (upd (fun _ => nI 0) 64 (nI 2)) 65 (nI 128)))), (ap_, .inl (E.2.1 0, 402, .inl (fun _ => nI 0))), (asl, .inl (E.2.1 0, 134, .inl (fun _ => nI 0))), (ah, .inl (E.2.1 0, 2, .inl (fun _ => nI 0))), (ax, .inl (E.2.1 0, 80, .inl (fun j => nI ((fun _ => 0) j)))), (atd, .inl (E.2.1 0, 123, .inl (fun _ => nI 0))), (av, .inl (E.2.1 0, 64, .inl (fun _ => nI 0))), (ae, .inl (E.2.1 0, 64, .inl (fun _ => nI 0))), (ao, .inl (E.2.1 4, 1, .inr (.inl (fun _ => 0))))]) [0, 1, 2, 3, 4, 5, 6, 7, 8, 9, 10, 11, 12, 13, 14, 15, 16, 17, 18, 19, 20, 25, 21, 22, 23, 24, 26, 27, 28, 29, 30, 31, 32, 33, 34, 35, 36, 37] (by decide +kernel) rfl rfl ?_
    exact law_loop (q := fun k => ([q0, q1, q2, q3, q4, q5] : List Nat).getD k 0) (a := fun k => ([a0, a1, a2, a3, a4, a5] : List Nat).getD k 0) (sq := fun k => ([z0, z1] : List Nat).getD k 0) (sa := fun k => ([u0, u1] : List Nat).getD k 0) hl0 cx hX hbl hbA hL Kend (L + 6) 0 _ _ (upd (upd (fun _ => nI 0) 64 (nI 2)) 65 (nI 128)) (fun _ => nI 0) (fun _ => nI 0) (fun _ => nI 0) (fun _ => nI 0) (fun _ => nI 0) (fun _ => nI 0) (nI 0) (nI 0) 0 0 (fun _ => 0) 0 0 0 (fun _ => nI 0) (nI 2) (nI 128) false (fun _ _ => nI 0) (fun _ => nI 2) (fun _ => nI 128) (fun _ => false) (fun _ _ => nI 0) (fun _ => nI 2) (fun _ => nI 128) (fun _ => false) (fun _ => false) (fun _ => nI 0) (fun _ => nI 0) 0 (nI 0) (fun _ => 0) (by omega) (Nat.zero_le _) (show _ ≤ 601024 by omega) (show _ ≤ 7293034 by omega) rel_0
  have hP : va_P E.1 vwCl [] s.heap := fun k q h => by simp at h
  have hD : va_D (fun q : Nat => s.heap.size ≤ q) [] := ⟨fun i j p q h => by simp at h, fun k q h => by simp at h⟩
  have hl := lv_entry ([.ref b] : List Value) (n := 9) (Nat.le_of_ble_eq_true rfl)
  rw [lg_entry_eq]
  exact body s.heap [] _ hP hD va_S.rf hl
set_option maxHeartbeats 4000000 in
theorem lw_walk (l : Launch) (hflags : l.flags = flags0) (b : Addr) (xs : List Int32) : MetFree l x (headSpec (Jvm.Cond.code x code maxLocals ret :: tables_1) room_1) (lw_P b xs) (fun _ _ _ _ _ => True) lw_Q := by
  refine MetFree.of_bodyS (code := code) (maxLocals := maxLocals) (ret := ret) (by decide) ?_ ?_
  · intro args s m h hn
    obtain ⟨meth, c, h1, h2, h3, h4, h5, h6, -, -⟩ := Cond.code_spec hn (atoms_spec (ws := Jvm.Cond.code x code maxLocals ret :: tables_1) h _ List.mem_cons_self)
    exact ⟨meth, c, h1, h2, h3, h4, h5, h6⟩
  · intro p e s m args below meth c s₁ B hml0 hP _
    obtain ⟨rfl, hx, hbd, hgv⟩ := hP
    obtain ⟨scr, harrAt, hlist, hof, hsmall⟩ := hx
    obtain ⟨hcb, hkn, -, -⟩ := State.arrayAt?_spec harrAt
    have hown : s.vm.findClass R_law = some m.cls := findClass_of_methodNamed B.named
    have hts0 : ∀ c ∈ (Jvm.Cond.code x code maxLocals ret :: tables_1), c.before #[Value.ref b] s = true := atoms_spec (ws := Jvm.Cond.code x code maxLocals ret :: tables_1) B.pre
    have hts : ∀ w ∈ lw_tbl, w.before #[Value.ref b] s = true := k2_hts_sels lw_privs (fun w hw => hts0 w (List.mem_cons_of_mem _ hw)) lw_privs_ok
    have hml : c.maxLocals = 9 := B.maxLocals_eq (hts0 _ List.mem_cons_self)
    have X₀ : Stand p l e room_1 s m #[Value.ref b] below meth c s₁ [] 0 0 := Stand.of_body B
    have hh0 : s₁.heap = s.heap := by rw [B.state]; rfl
    have hsz : scr.slots.size = xs.length := by rw [← Array.length_toList, hlist, List.length_map]
    have hval : ∀ j : Nat, j < xs.length → scr.slots[j]? = some (.int (xs.getD j 0)) := fun j hj => by
      rw [← Array.getElem?_toList, hlist]
      simp [hj]
    have hbl : b < s.heap.size := (Array.getElem?_eq_some_iff.mp hcb).1
    have hX : va_X b xs.length (fun j => xs.getD j 0) s s.heap := ⟨scr, hcb, hof, hkn, hsz, hval⟩
    have K : W p l e room_1 s m #[Value.ref b] below meth c s₁.heap [] 0 0 (lw_Z below #[Value.ref b] s) (entryFrame m ([Value.ref b] : List Value).toArray 9) := by
      rw [hh0]
      exact whole_start l hflags hbd ⟨B.exec, B.bytes, B.returns, hml, hown, hts, hX, hbl, B.notSynchronized, hgv⟩
    obtain ⟨t, a1, o, b1, b2, b3⟩ := K s₁ rfl X₀
    exact ⟨t, o, a1, b1, b2, b3⟩
theorem lw_pre_spec {args : Array Value} {s : State} (h : (Jvm.Cond.and given_1 narrow_1).before args s = true) (hr : rest_1_c.before args s = true) : ∃ (b : Addr) (xs : List Int32), lw_P b xs args s := by
  have hs := flat_of_before _ h
  have hq := flat_of_before _ hr
  have hc : (Cond.count 1).before args s = true := hs _ (by decide +kernel)
  have harr : (Cond.arrayOf (.arg 0) .int).before args s = true := hs _ (by decide +kernel)
  have hle : (Cond.le (.length (.arg 0)) (.int 2560)).before args s = true := hs _ (by decide +kernel)
  have hlen : (Cond.isInt (.length (.arg 0))).before args s = true := hq _ (by decide +kernel)
  have hall : (Cond.all (.arg 0) (.isInt (.elem (.arg 0) (.index 0)))).before args s = true := hq _ (by decide +kernel)
  obtain ⟨b, xs, hb, hx⟩ := State.ints_of_pre rfl harr hlen hall
  have hsm : xs.length < 2 ^ 31 := hx.choose_spec.2.2.2
  have hev : (Term.length (.arg 0)).eval args s none [] s = some (.int xs.length.toInt32) := hx.length_eval hb
  have hv := Cond.le_ints hev (show (Term.int 2560).eval args s none [] s = some (.int 2560) from rfl)
  have hd : xs.length.toInt32 ≤ 2560 := by
    simpa [Cond.before, Cond.holds, hv] using hle
  have hN : xs.length ≤ 2560 := (Int32.ofNat_le_ofNat hsm (by decide)).mp (show Int32.ofNat xs.length ≤ Int32.ofNat 2560 from hd)
  exact ⟨b, xs, Cond.one_arg hc (show args[0]? = some (.ref b) from hb), hx, hN, h⟩
theorem lw_comes (l : Launch) (hflags : l.flags = flags0) : Comes l x (Jvm.Cond.code x code maxLocals ret :: tables_1) room_1 (fun tb e args s => Calls_1 tb e args s ∧ rest_1 tb e args s ∧ Pre_1 tb e args s)
    (fun _ _ args s o t => lw_Q args s o t) := by
  intro p e ha hc hk s m args below hf hfit hheap happ hpre
  obtain ⟨b, xs, hP⟩ := lw_pre_spec hpre.2.2 hpre.2.1
  obtain ⟨k, o, h1, h2, h3, hQ⟩ := lw_walk l hflags b xs p e ha hc hk s m args below hf ((Spec.applies_iff_loose hf).mp happ).1 hP trivial
  exact ⟨k, o, h1, h2, h3, hQ⟩
theorem lw_frame {s t : State} {o : Outcome} {args : Array Value} (h : State.butDraws s t lw_cs (fun t1 => Framed s o t1 [] 601024 7293034)) :
    State.butDraws s t [Jvm.Choice.named "NaN.bits"] (fun t1 => Framed s o t1 (fieldLocs frame_1_writes args s ++ arrayLocs frame_1_arrays args s ++ staticLocs frame_1_statics s) 601024 7293034) := h
theorem lw_limb (L : Cond) (hL : ∀ (args : Array Value) (s t : State), L.after args s (.returned (some (.int 1))) t = true) :
    ArmFor flags0 classFile x code maxLocals ret World_1 tables_1 room_1 Calls_1 rest_1 Pre_1
      (fun tb e a s o t => postC L tb e a s o t ∧ State.butDraws s t [Jvm.Choice.named "NaN.bits"] (fun t1 => Framed s o t1 (fieldLocs frame_1_writes a s ++ arrayLocs frame_1_arrays a s ++ staticLocs frame_1_statics s) 601024 7293034)) := by
  intro l hflags _ _ p e ha hc hk s m args below hf hfit hheap happ hpre
  obtain ⟨k, o, h1, h2, h3, rfl, hF⟩ := lw_comes l hflags p e ha hc hk s m args below hf hfit hheap happ hpre
  exact ⟨k, _, h1, h2, h3, hL args s _, lw_frame hF⟩
theorem i_vc : Claimed_1_1 ∧ Claimed_1_2 := ⟨lw_limb limb_1_1 (fun args s t => by simp [limb_1_1, Cond.after, Cond.holds, Cond.value]), lw_limb limb_1_2 (fun args s t => Cond.after_iff.mpr (by
  first | (rw [show limb_1_2 = Cond.eq .result (.int 1) from rfl, Cond.eq_ints (x := 1) (y := 1) rfl rfl]; simp; done) | (simp [limb_1_2, Cond.value, Term.eval]; done)))⟩

