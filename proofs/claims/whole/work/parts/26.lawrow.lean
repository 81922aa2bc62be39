/-! the law's wrappers: gW says that a method with a table answers rv, in 1 cell and 6 slots -/
def gNoX : String → State → State → Prop := fun _ _ _ => False
def gW (l : Launch) (y : MethodName) (ws : List Cond) (rm : Room) (E : gEnv) (av : List Value) (cp cq : va_W) (rv : Option Value) : Prop := cq.map Prod.fst = cp.map Prod.fst ∧ ∀ sz, vx_Met l y ws rm (gPre E av cp sz) (gQ E cq rv (va_A cp sz)) gNoX 1 6 (va_A cp sz)
theorem gW.ofG {l : Launch} {y : MethodName} {ws ws' : List Cond} {rm : Room} {E : gEnv} {av : List Value} {cp cq : va_W} {rv : Option Value} {cc : ByteArray} {nL : Nat} {ret : Option FieldType} {own : String} {hh : List (Nat × Nat × Nat × Nat)} (lv : List (Nat × Value)) (hy : plainName y.cls = true) (hw : ws = Cond.codeWith y cc nL ret hh :: ws') (hcls : y.cls = own) (hnl : (lg_sl av).length ≤ nL) (hlv : lv_args 0 av = lv) (hcq : cq.map Prod.fst = cp.map Prod.fst)
    (body : ∀ (p : Program) (e : Env) (s : State) (m : MethodId) (below : List Frame) (meth : Method) (c : Code) (A : Nat → Prop), gC p s m av.toArray meth c cc nL own ret ws E A → c.exceptionTable.toList = tableOf hh → gG p l e rm s m av.toArray below meth c nL E A (vx_MQ below (gQ E cq rv A) gNoX av.toArray s 1 6 A) 0 0 cp lv [] 0) : gW l y ws rm E av cp cq rv := by
  refine ⟨hcq, fun sz => ?_⟩
  refine vx_ofWH (cc := cc) (maxL := nL) (ret := ret) (hh := hh) hy hw ?_
  intro p e s m args below meth c s₁ B hml hv
  obtain ⟨rfl, hsz, hP, hD0, hE⟩ := hv
  subst hsz
  have hts := atoms_spec (ws := ws) B.pre
  have hex := vx_table (x := y) B (hts (Cond.codeWith y cc nL ret hh) (by rw [hw]; exact List.mem_cons_self))
  have hown : s.vm.findClass own = some m.cls := by rw [← hcls]; exact findClass_of_methodNamed B.named
  have hl := lv_entry av (n := nL) hnl
  rw [lg_entry_eq]
  rw [hlv] at hl
  exact body p e s m below meth c (va_A cp s.heap.size) ⟨B.exec, B.bytes, hml, hown, hts, hE, fun q h => Or.inr h, B.returns, B.notSynchronized⟩ hex s.heap [] _ hP hD0.self va_S.rf hl
section GLAW
variable {p : Program} {l : Launch} {e : Env} {R : Room} {s : State} {m : MethodId} {args : Array Value} {below : List Frame} {meth : Method} {c : Code} {cc : ByteArray} {nL : Nat} {own : String} {ret : Option FieldType} {Ts : List Cond} {E : gEnv} {A : Nat → Prop} {Q : State → Prop} {cells slots : Nat} {ws : va_W} {lv : List (Nat × Value)} {st : List Value} {pc : Nat}
theorem g_W {Qc : Array Value → State → Outcome → State → Prop} {XC : String → State → State → Prop} (hc : cells ≤ 1) (hs : slots ≤ 6) (kk : gG p l e R s m args below meth c nL E A (MQ below Qc args s 1 6 A) (1) (6) (ws) (lv) (st) (pc)) : gG p l e R s m args below meth c nL E A (vx_MQ below Qc XC args s 1 6 A) (cells) (slots) (ws) (lv) (st) (pc) := fun H locs ls hP hD hS hl => W.widen hc hs (vx_ret (kk H locs ls hP hD hS hl))
theorem g_widen {k n : Nat} (hc : cells ≤ k) (hs : slots ≤ n) (kk : gG p l e R s m args below meth c nL E A Q (k) (n) (ws) (lv) (st) (pc)) : gG p l e R s m args below meth c nL E A Q (cells) (slots) (ws) (lv) (st) (pc) := fun H locs ls hP hD hS hl => W.widen hc hs (kk H locs ls hP hD hS hl)
/-- a call that throws, and is caught here -/
theorem g_callVC (cx : gC p s m args meth c cc nL own ret Ts E A) {y : MethodName} {wy wy' : List Cond} {rm : Room} {b index maxL n : Nat} {As rest : List Value} {cp : va_W} {Ex : String} {bytes : ByteArray} {rt : Option FieldType} {C : String} {T : u_T} {N ci : Nat} {fs : List Value} (hM : gZ l y wy rm E (.ref b :: As) cp Ex) (hG : GoodIn Ts (wsV own index C y wy)) (hw : wy = Cond.code y bytes maxL rt :: wy') (hd0 : y.cls = C ∧ y.cls ≠ "java/lang/invoke/MethodHandle" ∧ y.cls ≠ "java/lang/invoke/VarHandle" ∧ (parseMethodDescriptor y.desc).map (fun d => d.parameters.length) = some n) (hrc : rm.cells = 1) (hrs : rm.slots = 6) (hR : rm.frames + 1 ≤ R.frames ∧ 8 + (maxL + 11) + rm.locals ≤ R.locals) (hf : cells + 1 ≤ R.cells ∧ slots + 6 ≤ R.slots)
    (is : List Nat) (q0 : Nat) (he : ws[q0]? = some (b, .inr (ci, fs))) (hc : vwCl[ci]? = some (C, T, N)) (hn : va_nd is = true) (hC : is.map (fun i => ws[i]?) = cp.map some) (hlen : As.length = n) (hst : st = As.reverse ++ .ref b :: rest) (hcat : (rest.map fun v => v.category).sum ≤ 8) (hd : decode cc pc = .ok (.invokevirtual index, 3))
    (pre : List ExceptionTableEntry) (x : ExceptionTableEntry) (suf : List ExceptionTableEntry) (hsplit : c.exceptionTable.toList = pre ++ x :: suf) (hpass : ∀ z ∈ pre, z.catchType ≠ 0 ∧ ∃ nm : String, Cond.classLink own z.catchType nm ∈ Ts ∧ va_Nc Ex nm s) (hx : covers x pc = true) (h0 : x.catchType ≠ 0) (hlink : Cond.classLink own x.catchType Ex ∈ Ts) (hcast : va_Nw (.castable Ex Ex) s)
    (kk : ∀ q : Nat, gG p l e R s m args below meth c nL E A Q (cells + 1) (slots + 6) (ws) (lv) ([.ref q]) (x.handlerPc)) : gG p l e R s m args below meth c nL E A Q (cells) (slots) (ws) (lv) (st) (pc) := by
  intro H locs ls hP hD hS hl
  have hA : ∀ q, va_A cp H.size q → A q := va_free hD hS cx.2.2.2.2.2.2.1 is hC
  have hr := vx_runV (e := e) (below := below) (meth := meth) (g := F0 m pc ls st) (cells := cells) (slots := slots) (locs := locs) (As := As) (rest := rest) ⟨cx.1, cx.2.1, cx.2.2.1, cx.2.2.2.1, cx.2.2.2.2.1⟩ (hM H.size) (cwV n cx.2.2.2.2.1 hG hw hrc hrs hd0 hR) ⟨gPre.blind, va_recv (q := (C, T, N)) cx.2.2.2.2.2.1.1 hP hc he, fun U hU hW => ⟨rfl, by rw [hU], by rw [hU]; exact gP_call hP is hC, gD_call hD is hn hC, gE_call cx hD hS is hC hU hW⟩⟩ rfl hlen hl.1 hst (lv_room (m := m) (pc := pc) (ls := ls) (rest := st) hcat) hd hf
  intro T hT X
  rcases hr T hT X with ⟨v, st₀, t, T', L, h0, X', hL, e1, e2, hno, st⟩ | ⟨q, st₀, t, T', L, E2, ce, h9, X', hL, e1, e2, ⟨rfl, hp, hF⟩, hce, hcv, hcl, st⟩
  · exact hno.elim
  · obtain ⟨k1, k2, k3⟩ := vx_keep h9 e1 hS (fun q _ h => hA q h) (fun q h => hA q h) hL hF
    obtain ⟨hP1, -⟩ := gput_spec hP hD is hC rfl hn k2 (by rw [e1]; exact hp)
    rw [gput_self ws is cp hC] at hP1
    obtain ⟨t2, a1, b1⟩ := vx_catch (R := R) (l := l) (pc := pc) (ls := ls) (rest := rest) cx.2.2.2.1 pre x suf hsplit (fun z hz => Or.inr (by obtain ⟨h1, nm, h2, h3⟩ := hpass z hz; exact ⟨h1, nm, cx.2.2.2.2.1 _ h2, h3⟩)) hx h0 (cx.2.2.2.2.1 _ hlink) (va_Nw.use rfl hcast) (by rw [e1]; exact hce) hcv hcl (kk q T'.heap (locs ++ L) ls hP1 hD k3 hl) T' rfl X'
    exact ⟨t2, st.trans a1, b1⟩
/-- a wrapper's call -/
theorem g_callSW (cx : gC p s m args meth c cc nL own ret Ts E A) {y : MethodName} {wy wy' : List Cond} {rm : Room} {index maxL n : Nat} {As rest : List Value} {cp cq ws' : va_W} {rv : Option Value} {bytes : ByteArray} {rt : Option FieldType} {hh : List (Nat × Nat × Nat × Nat)} (hM : gW l y wy rm E As cp cq rv) (hG : GoodIn Ts (va_wsS own index y wy)) (hw : wy = Cond.codeWith y bytes maxL rt hh :: wy') (hd0 : y.cls ≠ "java/lang/invoke/MethodHandle" ∧ y.cls ≠ "java/lang/invoke/VarHandle" ∧ (parseMethodDescriptor y.desc).map (fun d => d.parameters.length) = some n) (hrc : rm.cells = 1) (hrs : rm.slots = 6) (hR : rm.frames + 1 ≤ R.frames ∧ 8 + (maxL + 11) + rm.locals ≤ R.locals) (hf : cells + 1 ≤ R.cells ∧ slots + 6 ≤ R.slots)
    (is : List Nat) (hn : va_nd is = true) (hC : is.map (fun i => ws[i]?) = cp.map some) (hB : gput ws is cq = ws') (hlen : As.length = n) (hst : st = As.reverse ++ rest) (hcat : (rest.map fun v => v.category).sum ≤ 8) (hd : decode cc pc = .ok (.invokestatic index, 3)) (kk : gG p l e R s m args below meth c nL E A Q (cells + 1) (slots + 6) (ws') (lv) (rv.toList ++ rest) (pc + 3)) : gG p l e R s m args below meth c nL E A Q (cells) (slots) (ws) (lv) (st) (pc) := by
  intro H locs ls hP hD hS hl
  have hA : ∀ q, va_A cp H.size q → A q := va_free hD hS cx.2.2.2.2.2.2.1 is hC
  have hr := vx_runSX (e := e) (below := below) (meth := meth) (g := F0 m pc ls st) (cells := cells) (slots := slots) (locs := locs) (As := As) (rest := rest) ⟨cx.1, cx.2.1, cx.2.2.1, cx.2.2.2.1, cx.2.2.2.2.1⟩ (hM.2 H.size) (vx_cwSW n cx.2.2.2.2.1 hG hw hrc hrs hd0 hR) ⟨gPre.blind, fun U hU hW => ⟨rfl, by rw [hU], by rw [hU]; exact gP_call hP is hC, gD_call hD is hn hC, gE_call cx hD hS is hC hU hW⟩⟩ rfl hlen hl.1 hst (lv_room (m := m) (pc := pc) (ls := ls) (rest := st) hcat) hd hf
  intro T hT X
  rcases hr T hT X with ⟨v, st₀, t, T', L, h0, X', hL, e1, e2, ⟨hv, hp, hz, hk⟩, st⟩ | ⟨q, st₀, t, T', L, E2, ce, h9, X', hL, e1, e2, hno, hce, hcv, hcl, st⟩
  · cases hv
    rw [h0] at hz hk
    rw [← e1] at hz hk hp
    obtain ⟨hP1, hD1⟩ := gput_spec hP hD is hC hM.1 hn hk hp
    rw [hB] at hP1 hD1
    obtain ⟨t2, a1, b1⟩ := kk T'.heap (locs ++ L) ls hP1 hD1
      ⟨Nat.le_trans hS.1 hz, fun q h1 h2 => by rw [hk q (Nat.lt_of_lt_of_le h1 hS.1) (fun z => h2 (hA q z))]; exact hS.2.1 q h1 h2, fun q hq => by
        rcases List.mem_append.mp hq with h | h
        · exact hS.2.2 q h
        · exact hA _ (hL q h)⟩ hl T' rfl X'
    exact ⟨t2, st t2 a1, b1⟩
  · exact hno.elim
/-- the script -/
theorem g_sld (cx : gC p s m args meth c cc nL own ret Ts E A) {b L : Nat} {xs : Nat → Int32} {i v : Int32} (hX : va_X b L xs s s.heap) (hbl : b < s.heap.size) (hbA : ¬ A b) (hin : vp_in i L) (hv : xs i.toNatClampNeg = v) (hd : decode cc pc = .ok (.iaload, 1)) (kk : gG p l e R s m args below meth c nL E A Q (cells) (slots) (ws) (lv) (.int v :: st) (pc + 1)) : gG p l e R s m args below meth c nL E A Q (cells) (slots) (ws) (lv) (.int i :: .ref b :: st) (pc) := fun H locs ls hP hD hS hl => va_sld cx.1 cx.2.1 hX hbl hbA hS hin hd (by rw [hv]; exact kk H locs ls hP hD hS hl)
theorem g_slen (cx : gC p s m args meth c cc nL own ret Ts E A) {b L : Nat} {xs : Nat → Int32} (hX : va_X b L xs s s.heap) (hbl : b < s.heap.size) (hbA : ¬ A b) (hd : decode cc pc = .ok (.arraylength, 1)) (kk : gG p l e R s m args below meth c nL E A Q (cells) (slots) (ws) (lv) (.int (nI L) :: st) (pc + 1)) : gG p l e R s m args below meth c nL E A Q (cells) (slots) (ws) (lv) (.ref b :: st) (pc) := fun H locs ls hP hD hS hl => va_slen cx.1 cx.2.1 hX hbl hbA hS hd (kk H locs ls hP hD hS hl)
end GLAW
