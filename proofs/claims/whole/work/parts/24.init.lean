/-! constructors: gNw says that from the bare object at h the constructor leaves cells that B speaks of -/
abbrev pcO : String := "FlakePainter$Picture"
def gPreI (E : gEnv) (h : Nat) (e0 : va_E) (sz : Nat) : Array Value → State → Prop := fun a U => gPre E [.ref h] [(h, e0)] sz a U ∧ va_AO pcO U
def gQI (E : gEnv) (B : va_W → Prop) (A : Nat → Prop) : Array Value → State → Outcome → State → Prop := fun _ st oc t => oc = .returned none ∧ (∃ cq, B cq ∧ va_P E.1 vwCl cq t.heap ∧ va_D A cq) ∧ va_F A st t
def gNw (l : Launch) (y : MethodName) (ws : List Cond) (rm : Room) (E : gEnv) (h : Nat) (e0 : va_E) (nc ns : Nat) (B : va_W → Prop) : Prop := ∀ sz, Met l y ws rm (gPreI E h e0 sz) (gQI E B (va_A [(h, e0)] sz)) nc ns (va_A [(h, e0)] sz)
theorem gPreI.blind {E : gEnv} {h : Nat} {e0 : va_E} {sz : Nat} : FrameBlind (gPreI E h e0 sz) := fun a U g mk q => ⟨gPre.blind a U g mk q.1, va_AO.moved (u := U) (U := U.calling g mk a) (Vm.Alike.refl U.vm) q.2⟩
theorem gNw.ofG {l : Launch} {y : MethodName} {ws ws' : List Cond} {rm : Room} {E : gEnv} {h : Nat} {e0 : va_E} {nc ns : Nat} {B : va_W → Prop} {cc : ByteArray} {nL : Nat} {own : String} (hy : plainName y.cls = true) (hw : ws = Cond.code y cc nL none :: ws') (hcls : y.cls = own) (hnm : y.name = "<init>") (hnl : (lg_sl [.ref h]).length ≤ nL)
    (body : ∀ (p : Program) (e : Env) (s : State) (m : MethodId) (below : List Frame) (meth : Method) (c : Code) (A : Nat → Prop), gC p s m ([.ref h] : List Value).toArray meth c cc nL own none ws E A → va_AO pcO s → meth.name = "<init>" → gG p l e rm s m ([.ref h] : List Value).toArray below meth c nL E A (MQ below (gQI E B A) ([.ref h] : List Value).toArray s nc ns A) 0 0 [(h, e0)] [(0, .ref h)] [] 0) : gNw l y ws rm E h e0 nc ns B := by
  intro sz
  refine Met.ofW (cc := cc) (maxL := nL) (ret := none) hy hw ?_
  intro p e s m args below meth c s₁ B0 hml hv
  obtain ⟨⟨rfl, hsz, hP, hD0, hE⟩, hao⟩ := hv
  subst hsz
  have hts := atoms_spec (ws := ws) B0.pre
  have hown : s.vm.findClass own = some m.cls := by rw [← hcls]; exact findClass_of_methodNamed B0.named
  have hin : meth.name = "<init>" := (name_of_methodNamed B0.named B0.method).1.trans hnm
  have hl := lv_entry [.ref h] (n := nL) hnl
  rw [lg_entry_eq]
  exact body p e s m below meth c (va_A [(h, e0)] s.heap.size) ⟨B0.exec, B0.bytes, hml, hown, hts, hE, fun q h => Or.inr h, B0.returns, B0.notSynchronized⟩ hao hin s.heap [] _ hP hD0.self va_S.rf hl
section GINIT
variable {p : Program} {l : Launch} {e : Env} {R : Room} {s : State} {m : MethodId} {args : Array Value} {below : List Frame} {meth : Method} {c : Code} {cc : ByteArray} {nL : Nat} {own : String} {ret : Option FieldType} {Ts : List Cond} {E : gEnv} {A : Nat → Prop} {Q : State → Prop} {cells slots : Nat} {ws : va_W} {lv : List (Nat × Value)} {st : List Value} {pc : Nat}
theorem g_objInit (cx : gC p s m args meth c cc nL own ret Ts E A) {index a : Nat} (h1 : Cond.methodLink own index objectInit ∈ Ts) (h2 : Cond.instanceMethod objectInit ∈ Ts) (h3 : Cond.code objectInit ⟨#[0xb1]⟩ 1 none ∈ Ts) (hd : decode cc pc = .ok (.invokespecial index, 3)) (hR : 1 ≤ R.frames) (hRl : (st.map fun v => v.category).sum + 12 ≤ R.locals) (kk : gG p l e R s m args below meth c nL E A Q (cells) (slots) (ws) (lv) (st) (pc + 3)) : gG p l e R s m args below meth c nL E A Q (cells) (slots) (ws) (lv) (.ref a :: st) (pc) := by
  intro H locs ls hP hD hS hl
  exact W.objInit cx.1 cx.2.1 cx.2.2.2.1 (cx.2.2.2.2.1 _ h1) (cx.2.2.2.2.1 _ h2) (cx.2.2.2.2.1 _ h3) rfl (hl.1.trans cx.2.2.1.symm) rfl hd hR (by show 2 * 0 + _ + 12 ≤ _; omega) (kk H locs ls hP hD hS hl)
theorem g_new (cx : gC p s m args meth c cc nL own ret Ts E A) {C : String} {T : u_T} {N ci index : Nat} {fs : List Value} (hin : ∀ w ∈ u_ws C T N, w ∈ Ts) (ty : Nat → FieldType) (hty : ∀ k, k < N → parseFieldDescriptor (T k).2.2.1 = some (ty k)) (h1 : Cond.classLink own index C ∈ Ts) (h2 : Cond.instantiable C N ∈ Ts) (h3 : Cond.initialized C ∈ Ts) (hc : vwCl[ci]? = some (C, T, N)) (hfs : ∀ j, j < N → defaultValue (ty j) = vp_V fs j) (hcells : cells + 1 ≤ R.cells) (hslots : slots + N ≤ R.slots) (hd : decode cc pc = .ok (.new index, 3)) (kk : ∀ q : Nat, gG p l e R s m args below meth c nL E A Q (cells + 1) (slots + N) (ws ++ [(q, .inr (ci, fs))]) (lv) (.ref q :: st) (pc + 3)) : gG p l e R s m args below meth c nL E A Q (cells) (slots) (ws) (lv) (st) (pc) := by
  intro H locs ls hP hD hS hl
  exact va_new cx.1 cx.2.1 cx.2.2.2.2.1 hin ty hty cx.2.2.2.1 (cx.2.2.2.2.1 _ h1) (cx.2.2.2.2.1 _ h2) (cx.2.2.2.2.1 _ h3) cx.2.2.2.2.2.1.1 hP hD hS cx.2.2.2.2.2.2.1 hc hfs hcells hslots hd (fun q H1 hP hD hS => kk q H1 locs ls hP hD hS hl)
theorem g_newa (cx : gC p s m args meth c cc nL own ret Ts E A) {atype : ArrayType} {ty : FieldType} {n : Int32} {N' k : Nat} {a0 : vp_A} (h1 : Cond.arrayClass (newarray.typeOf atype) ∈ Ts) (hty : newarray.typeOf atype = ty) (hk : (gTys E)[k]? = some (E.2.1 k, ty)) (hno : ∀ U cA, va_RA U cA ty → U.vm.findClass ("[" ++ ty.toString) = some cA) (ha : ∀ cA : ClassId, vp_cell cA a0 = arrV cA N' (fun _ => defaultValue ty)) (hn : ¬ n < 0) (hN : n.toNatClampNeg = N') (hbytes : N' * componentBytes ty ≤ 536870912) (hcells : cells + 1 ≤ R.cells) (hslots : slots + N' ≤ R.slots) (hd : decode cc pc = .ok (.newarray atype, 2)) (kk : ∀ q : Nat, gG p l e R s m args below meth c nL E A Q (cells + 1) (slots + N') (ws ++ [(q, .inl (E.2.1 k, a0))]) (lv) (.ref q :: st) (pc + 2)) : gG p l e R s m args below meth c nL E A Q (cells) (slots) (ws) (lv) (.int n :: st) (pc) := by
  intro H locs ls hP hD hS hl
  refine va_newa cx.1 cx.2.1 (cx.2.2.2.2.1 _ h1) hty cx.2.2.2.2.2.1.1 hP hD hS cx.2.2.2.2.2.2.1 ha hn hN hbytes hcells hslots hd (fun q cA H1 hK1 hP hD hS => ?_)
  have e1 := hno _ _ (cx.2.2.2.2.2.1.1.2 k _ hk).2
  have e2 := hno _ _ (hK1.2 (gTys E).length (cA, ty) (by rw [List.getElem?_append_right (Nat.le_refl _), Nat.sub_self]; rfl)).2
  have e3 : cA = E.2.1 k := Option.some.inj (e2.symm.trans e1)
  subst e3
  exact kk q H1 locs ls hP hD hS hl
theorem g_newq (cx : gC p s m args meth c cc nL own ret Ts E A) {index : Nat} {n : Int32} {N' : Nat} (h1 : Cond.classLink own index pcO ∈ Ts) (hao : va_AO pcO s) (hn : ¬ n < 0) (hN : n.toNatClampNeg = N') (hbytes : N' * 4 ≤ 536870912) (hcells : cells + 1 ≤ R.cells) (hslots : slots + N' ≤ R.slots) (hd : decode cc pc = .ok (.anewarray index, 3)) (kk : ∀ q : Nat, gG p l e R s m args below meth c nL E A Q (cells + 1) (slots + N') (ws ++ [(q, .inl (E.2.1 3, N', .inr (.inr (.inr (.inr (fun _ => none))))))]) (lv) (.ref q :: st) (pc + 3)) : gG p l e R s m args below meth c nL E A Q (cells) (slots) (ws) (lv) (.int n :: st) (pc) := by
  intro H locs ls hP hD hS hl
  refine va_newq cx.1 cx.2.1 cx.2.2.2.1 (cx.2.2.2.2.1 _ h1) hao cx.2.2.2.2.2.1.1 hP hD hS cx.2.2.2.2.2.2.1 hn hN hbytes hcells hslots hd (fun q cA H1 hK1 hP hD hS => ?_)
  obtain ⟨_, _, _, _, _, e1⟩ := (cx.2.2.2.2.2.1.1.2 3 (E.2.1 3, .object pcO) rfl).2
  obtain ⟨_, _, _, _, _, e2⟩ := (hK1.2 (gTys E).length (cA, .object pcO) (by rw [List.getElem?_append_right (Nat.le_refl _), Nat.sub_self]; rfl)).2
  have e3 : cA = E.2.1 3 := Option.some.inj (e2.symm.trans e1)
  subst e3
  exact kk q H1 locs ls hP hD hS hl
theorem g_vretI (cx : gC p s m args meth c cc nL own none Ts E A) {B : va_W → Prop} (hB : B ws) (hd : decode cc pc = .ok (.return_, 1)) : gG p l e R s m args below meth c nL E A (MQ below (gQI E B A) args s cells slots A) (cells) (slots) (ws) (lv) ([]) (pc) := by
  intro H locs ls hP hD hS hl
  exact W.vret cx.1 cx.2.1 cx.2.2.2.2.2.2.2.1 (fun t ht hW => ⟨rfl, ⟨ws, hB, by rw [ht]; exact hP, hD⟩, hS.F ht⟩) hS.2.2 hd (by exact cx.2.2.2.2.2.2.2.2)
theorem g_callI (cx : gC p s m args meth c cc nL own ret Ts E A) {y : MethodName} {wy wy' : List Cond} {rm : Room} {index maxL b nc ns : Nat} {rest : List Value} {e0 : va_E} {B : va_W → Prop} {wr : va_W} {bytes : ByteArray} (hM : gNw l y wy rm E b e0 nc ns B) (hao : va_AO pcO s) (hG : GoodIn Ts wy) (hw : wy = Cond.code y bytes maxL none :: wy') (hrc : rm.cells = nc) (hrs : rm.slots = ns) (h1 : Cond.initialized y.cls ∈ Ts) (h2 : Cond.methodLink own index y ∈ Ts) (h3 : Cond.instanceMethod y ∈ Ts) (hnm : y.name = "<init>") (hd0 : y.cls ≠ "java/lang/invoke/MethodHandle" ∧ y.cls ≠ "java/lang/invoke/VarHandle" ∧ (parseMethodDescriptor y.desc).map (fun d => d.parameters.length) = some 0) (hR : rm.frames + 1 ≤ R.frames ∧ 8 + (maxL + 11) + rm.locals ≤ R.locals) (hf : cells + nc ≤ R.cells ∧ slots + ns ≤ R.slots)
    (iC : Nat) (isR : List Nat) (hC : ws[iC]? = some (b, e0)) (hRr : isR.map (fun i => ws[i]?) = wr.map some) (hnd : va_nd isR = true) (hni : isR.contains iC = false) (hst : st = .ref b :: rest) (hcat : (rest.map fun v => v.category).sum ≤ 8) (hd : decode cc pc = .ok (.invokespecial index, 3)) (kk : ∀ cq, B cq → gG p l e R s m args below meth c nL E A Q (cells + nc) (slots + ns) (wr ++ cq) (lv) (rest) (pc + 3)) : gG p l e R s m args below meth c nL E A Q (cells) (slots) (ws) (lv) (st) (pc) := by
  intro H locs ls hP hD hS hl
  have hC1 : [iC].map (fun i => ws[i]?) = [(b, e0)].map some := by simp [hC]
  have hF := va_free hD hS cx.2.2.2.2.2.2.1 [iC] hC1
  have hr := va_runI (As := []) (rest := rest) (g := F0 m pc ls st) (cells := cells) (slots := slots) (locs := locs) (e := e) (below := below) (meth := meth) ⟨cx.1, cx.2.1, cx.2.2.1, cx.2.2.2.1, cx.2.2.2.2.1⟩ (hM H.size) (cwI 0 cx.2.2.2.2.1 hG hw hrc hrs (cx.2.2.2.2.1 _ h1) (cx.2.2.2.2.1 _ h2) (cx.2.2.2.2.1 _ h3) hnm hd0 hR) ⟨gPreI.blind, fun U hU hW => ⟨⟨rfl, by rw [hU], by rw [hU]; exact gP_call hP [iC] hC1, gD_call hD [iC] rfl hC1, gE_call cx hD hS [iC] hC1 hU hW⟩, va_AO.moved hW.alike hao⟩⟩ rfl rfl hl.1 (by rw [hst]; rfl) (lv_room (m := m) (pc := pc) (ls := ls) (rest := st) hcat) hd hf
  intro T hT X
  obtain ⟨v, st₀, t, T', L, h0, X', hL, e1, e2, ⟨hv, ⟨cq, hB, hp, hq⟩, hz, hk⟩, st⟩ := hr T hT X
  cases hv
  rw [h0] at hz hk
  rw [← e1] at hz hk hp
  obtain ⟨hP1, hD1⟩ := va_join hP hD [iC] isR hC1 hRr hnd (fun i hi hz => by
    rw [List.mem_singleton.mp hz] at hi
    rw [List.contains_eq_mem] at hni
    exact absurd hi (of_decide_eq_false hni)) hk hF hp hq
  obtain ⟨t2, a1, b1⟩ := kk cq hB T'.heap (locs ++ L) ls hP1 hD1
    ⟨Nat.le_trans hS.1 hz, fun q h1 h2 => by rw [hk q (Nat.lt_of_lt_of_le h1 hS.1) (fun z => h2 (hF q z))]; exact hS.2.1 q h1 h2, fun q hq => by
      rcases List.mem_append.mp hq with h | h
      · exact hS.2.2 q h
      · exact hF _ (hL q h)⟩ hl T' rfl X'
  exact ⟨t2, st t2 a1, b1⟩
end GINIT
