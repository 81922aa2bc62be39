/-! methods that throw: gZ says that a method throws Ex and leaves the cells as they were -/
def gXZ (E : gEnv) (cp : va_W) (Ex : String) (A : Nat → Prop) : String → State → State → Prop := fun E2 st t => E2 = Ex ∧ va_P E.1 vwCl cp t.heap ∧ va_F A st t
def gNo : Array Value → State → Outcome → State → Prop := fun _ _ _ _ => False
def gZ (l : Launch) (y : MethodName) (ws : List Cond) (rm : Room) (E : gEnv) (av : List Value) (cp : va_W) (Ex : String) : Prop := ∀ sz, vx_Met l y ws rm (gPre E av cp sz) gNo (gXZ E cp Ex (va_A cp sz)) 1 6 (va_A cp sz)
theorem gZ.ofG {l : Launch} {y : MethodName} {ws ws' : List Cond} {rm : Room} {E : gEnv} {av : List Value} {cp : va_W} {Ex : String} {cc : ByteArray} {nL : Nat} {ret : Option FieldType} {own : String} (lv : List (Nat × Value)) (hy : plainName y.cls = true) (hw : ws = Cond.code y cc nL ret :: ws') (hcls : y.cls = own) (hnl : (lg_sl av).length ≤ nL) (hlv : lv_args 0 av = lv)
    (body : ∀ (p : Program) (e : Env) (s : State) (m : MethodId) (below : List Frame) (meth : Method) (c : Code) (A : Nat → Prop), gC p s m av.toArray meth c cc nL own ret ws E A → (∀ x ∈ c.exceptionTable.toList, False) → gG p l e rm s m av.toArray below meth c nL E A (vx_MQ below gNo (gXZ E cp Ex A) av.toArray s 1 6 A) 0 0 cp lv [] 0) : gZ l y ws rm E av cp Ex := by
  intro sz
  refine vx_ofW (cc := cc) (maxL := nL) (ret := ret) hy hw ?_
  intro p e s m args below meth c s₁ B hml hex hv
  obtain ⟨rfl, hsz, hP, hD0, hE⟩ := hv
  subst hsz
  have hts := atoms_spec (ws := ws) B.pre
  have hown : s.vm.findClass own = some m.cls := by rw [← hcls]; exact findClass_of_methodNamed B.named
  have hl := lv_entry av (n := nL) hnl
  rw [lg_entry_eq]
  rw [hlv] at hl
  exact body p e s m below meth c (va_A cp s.heap.size) ⟨B.exec, B.bytes, hml, hown, hts, hE, fun q h => Or.inr h, B.returns, B.notSynchronized⟩ hex s.heap [] _ hP hD0.self va_S.rf hl
theorem gput_self : ∀ (ws : va_W) (is : List Nat) (cp : va_W), is.map (fun i => ws[i]?) = cp.map some → gput ws is cp = ws := by
  intro ws is
  induction is with
  | nil => intro cp h; cases cp <;> rfl
  | cons i is ih =>
    intro cp h
    cases cp with
    | nil => simp at h
    | cons a b =>
      have h1 : ws[i]? = some a := by simpa using (List.cons.inj h).1
      have h2 : is.map (fun i => ws[i]?) = b.map some := (List.cons.inj h).2
      show gput (ws.set i a) is b = ws
      have h3 : ws.set i a = ws := by
        apply List.ext_getElem?
        intro j
        by_cases hj : i = j
        · subst hj
          have hlt := (List.getElem?_eq_some_iff.mp h1).1
          rw [List.getElem?_set_self hlt, h1]
        · rw [List.getElem?_set_ne hj]
      rw [h3]
      exact ih b h2
section GEXC
variable {p : Program} {l : Launch} {e : Env} {R : Room} {s : State} {m : MethodId} {args : Array Value} {below : List Frame} {meth : Method} {c : Code} {cc : ByteArray} {nL : Nat} {own : String} {ret : Option FieldType} {Ts : List Cond} {E : gEnv} {A : Nat → Prop} {Q : State → Prop} {cells slots : Nat} {ws : va_W} {lv : List (Nat × Value)} {st : List Value} {pc : Nat}
/-- the throw itself: new, dup, ldc, invokespecial, athrow -/
theorem g_throwS (cx : gC p s m args meth c cc nL own ret Ts E A) {cls text : String} {names : List String} {ik is ic sa : Nat} (hl : l.stackTraces = false) (hex : ∀ x ∈ c.exceptionTable.toList, False) (hfit : Bundle.fit cls = true) (hnames : ∀ n ∈ names, Bundle.fit n = true)
    (hk : Cond.classLink own ik cls ∈ Ts) (hini : Cond.initialized cls ∈ Ts) (hstr : vk_R own is text sa s) (hat : ∀ w ∈ (vx_atS own ic cls names).filter goodWord, w ∈ Ts) (hno : ∀ w ∈ (vx_atS own ic cls names).filter (fun w => !goodWord w), w ∈ ([Cond.castable cls cls, .declares ⟨"java/lang/RuntimeException", "<init>", "(Ljava/lang/String;)V"⟩, .declares ⟨"java/lang/Exception", "<init>", "(Ljava/lang/String;)V"⟩, .declares ⟨"java/lang/Throwable", "<init>", "(Ljava/lang/String;)V"⟩] : List Cond)) (hcast : va_Nw (.castable cls cls) s) (hgood : ∀ w ∈ Cond.classLink own ik cls :: Cond.initialized cls :: vx_atS own ic cls names, vx_ot w = true)
    (d0 : decode cc pc = .ok (.new ik, 3)) (d3 : decode cc (pc + 3) = .ok (.dup, 1)) (d4 : decode cc (pc + 4) = .ok (.ldc is, 2)) (d6 : decode cc (pc + 6) = .ok (.invokespecial ic, 3)) (d9 : decode cc (pc + 9) = .ok (.athrow, 1))
    (hRf : names.length + 3 < R.frames) (hRl : (st.map fun v => v.category).sum + (13 * (names.length + 1) + 43) ≤ R.locals) (hRc : cells + 1 ≤ R.cells) (hRs : slots + 6 ≤ R.slots) (hc : cells + 1 ≤ 1) (hs : slots + 6 ≤ 6) : gG p l e R s m args below meth c nL E A (vx_MQ below gNo (gXZ E ws cls A) args s 1 6 A) cells slots (ws) (lv) (st) (pc) := by
  intro H locs ls hP hD hS hlv
  have hg := cx.2.2.2.2.2.1
  refine vx_throwS (names := names) (sa := sa) cx.1 cx.2.1 hl cx.2.2.2.1 hfit hnames (cx.2.2.2.2.1 _ hk) (cx.2.2.2.2.1 _ hini) hstr (vx_hat (B := [Cond.castable cls cls, .declares ⟨"java/lang/RuntimeException", "<init>", "(Ljava/lang/String;)V"⟩, .declares ⟨"java/lang/Exception", "<init>", "(Ljava/lang/String;)V"⟩, .declares ⟨"java/lang/Throwable", "<init>", "(Ljava/lang/String;)V"⟩]) (fun w h => cx.2.2.2.2.1 _ (hat w h)) hno (vx_c (va_Nw.use rfl hcast) (vx_c (va_Nw.use rfl hg.2.2.2.2.2.2.2.2.2.2.2.1) (vx_c (va_Nw.use rfl hg.2.2.2.2.2.2.2.2.2.2.2.2.1) (vx_c (va_Nw.use rfl hg.2.2.2.2.2.2.2.2.2.2.2.2.2) vx_n))))) hgood hg.2.2.2.2.1.1 hg.2.2.2.2.1.2 hS (hlv.1.trans cx.2.2.1.symm) d0 d3 d4 d6 d9 (fun x h => (hex x h).elim) hRf hRl hRc hRs cx.2.2.2.2.2.2.2.2 ?_ hS.2.2 hc hs
  intro t hA hz hk2
  exact ⟨rfl, hP.kept (fun k q hq => hk2 q.1 ((hP k q hq).lt)), ⟨Nat.le_trans hS.1 hz, fun q h1 h2 => (hk2 q (Nat.lt_of_lt_of_le h1 hS.1)).trans (hS.2.1 q h1 h2)⟩⟩
/-- behind a call that throws, in a method that has no handler -/
theorem g_runZ (cx : gC p s m args meth c cc nL own ret Ts E A) {cp : va_W} {Ex : String} {rest st0 : List Value} {H : Heap} {locs : List Loc} {ls : Array Slot} (hex : ∀ x ∈ c.exceptionTable.toList, False) (is : List Nat) (hn : va_nd is = true) (hC : is.map (fun i => ws[i]?) = cp.map some) (hP : va_P E.1 vwCl ws H) (hD : va_D A ws) (hS : va_S A s.heap H locs)
    (hr : vx_Run p l e R s m args below meth c H locs 0 0 1 6 (F0 m pc ls st0) rest (gNo args) (gXZ E cp Ex (va_A cp H.size)) (va_A cp H.size)) : W p l e R s m args below meth c H locs 0 0 (vx_MQ below gNo (gXZ E ws Ex A) args s 1 6 A) (F0 m pc ls st0) := by
  have hA : ∀ q, va_A cp H.size q → A q := va_free hD hS cx.2.2.2.2.2.2.1 is hC
  intro T hT X
  rcases hr T hT X with ⟨v, st₀, t, T', L, h0, X', hL, e1, e2, hno, st⟩ | ⟨q, st₀, t, T', L, E2, ce, h0, X', hL, e1, e2, ⟨rfl, hp, hF⟩, hce, hcv, hcl, st⟩
  · exact hno.elim
  · obtain ⟨k1, k2, k3⟩ := vx_keep h0 e1 hS (fun q _ h => hA q h) (fun q h => hA q h) hL hF
    obtain ⟨hP1, -⟩ := gput_spec hP hD is hC rfl hn k2 (by rw [e1]; exact hp)
    rw [gput_self ws is cp hC] at hP1
    obtain ⟨t2, a1, b1⟩ := vx_out (R := R) (l := l) (pc := pc) (ls := ls) (rest := rest) (E := E2) (mc := 1) (ms := 6) (Qc := gNo) (free := A) (XC := gXZ E ws E2 A) (fun x h => (hex x h).elim) cx.2.2.2.2.2.2.2.2 (by rw [e1]; exact hce) hcv hcl (fun t3 h3 h4 => ⟨rfl, by rw [h3]; exact hP1, k3.F h3⟩) k3.2.2 (Nat.le_refl _) (Nat.le_refl _) T' rfl X'
    exact ⟨t2, st.trans a1, b1⟩
theorem g_callSZ (cx : gC p s m args meth c cc nL own ret Ts E A) {y : MethodName} {wy wy' : List Cond} {rm : Room} {index maxL n : Nat} {As rest : List Value} {cp : va_W} {Ex : String} {bytes : ByteArray} {rt : Option FieldType} (hex : ∀ x ∈ c.exceptionTable.toList, False) (hM : gZ l y wy rm E As cp Ex) (hG : GoodIn Ts (va_wsS own index y wy)) (hw : wy = Cond.code y bytes maxL rt :: wy') (hd0 : y.cls ≠ "java/lang/invoke/MethodHandle" ∧ y.cls ≠ "java/lang/invoke/VarHandle" ∧ (parseMethodDescriptor y.desc).map (fun d => d.parameters.length) = some n) (hrc : rm.cells = 1) (hrs : rm.slots = 6) (hR : rm.frames + 1 ≤ R.frames ∧ 8 + (maxL + 11) + rm.locals ≤ R.locals) (hf : 0 + 1 ≤ R.cells ∧ 0 + 6 ≤ R.slots)
    (is : List Nat) (hn : va_nd is = true) (hC : is.map (fun i => ws[i]?) = cp.map some) (hlen : As.length = n) (hst : st = As.reverse ++ rest) (hcat : (rest.map fun v => v.category).sum ≤ 8) (hd : decode cc pc = .ok (.invokestatic index, 3)) : gG p l e R s m args below meth c nL E A (vx_MQ below gNo (gXZ E ws Ex A) args s 1 6 A) 0 0 ws lv st pc := by
  intro H locs ls hP hD hS hl
  exact g_runZ cx hex is hn hC hP hD hS (vx_runS (As := As) (rest := rest) ⟨cx.1, cx.2.1, cx.2.2.1, cx.2.2.2.1, cx.2.2.2.2.1⟩ (hM H.size) (va_cwS n cx.2.2.2.2.1 hG hw hrc hrs hd0 hR) ⟨gPre.blind, fun U hU hW => ⟨rfl, by rw [hU], by rw [hU]; exact gP_call hP is hC, gD_call hD is hn hC, gE_call cx hD hS is hC hU hW⟩⟩ rfl hlen hl.1 hst (lv_room (m := m) (pc := pc) (ls := ls) (rest := st) hcat) hd hf)
end GEXC
