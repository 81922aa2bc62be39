/-! The layer: gG is a walk's goal for every heap that holds the cells ws and every row of locals that holds lv. -/
abbrev gEnv : Type := va_G × (Nat → ClassId) × (Nat → Nat)
abbrev gTys (E : gEnv) : List (ClassId × FieldType) := [(E.2.1 0, .int), (E.2.1 1, .char), (E.2.1 2, .boolean), (E.2.1 3, .object "FlakePainter$Picture"), (E.2.1 4, .long)]
def zF (j : Nat) : Int32 := ([0, 1, 3, 7, 12] : List Int32).getD j 0
def zD (j : Nat) : Int32 := ([0, 1, 0, 1, 1, 1, 0, 2, 1, 1, 0, 0] : List Int32).getD j 0
def zA (j : Nat) : Int32 := ([1, 0, 1, 1, 0, -1, 1, 0, 1, 0, 2, 1] : List Int32).getD j 0
def zW (j : Nat) : Int32 := ([0, 8, 0, 1, 5, 3, 0, 2, 2, 4, 2, 0] : List Int32).getD j 0
def gS1 (n : String) (N : Nat) (f : Nat → Int32) (t : Nat) (A : Nat → Prop) (U : State) (H : Heap) : Prop := va_Z "FlakePainter" n "[I" (.ref t) A U H ∧ va_T .int t N (fun j => .int (f j)) A U H
def gS (E : gEnv) (A : Nat → Prop) (U : State) (H : Heap) : Prop := gS1 "FIRST_NEIGHBOUR" 5 zF (E.2.2 0) A U H ∧ gS1 "DOWN" 12 zD (E.2.2 1) A U H ∧ gS1 "AHEAD" 12 zA (E.2.2 2) A U H ∧ gS1 "WEIGHT" 12 zW (E.2.2 3) A U H
def gNest (U : State) : Prop := va_Nw (.fieldLinkNest RX2 56 "FlakePainter" "FIRST_NEIGHBOUR" "[I" "FlakePainter") U ∧ va_Nw (.fieldLinkNest RX2 66 "FlakePainter" "DOWN" "[I" "FlakePainter") U ∧ va_Nw (.fieldLinkNest RX2 69 "FlakePainter" "AHEAD" "[I" "FlakePainter") U ∧ va_Nw (.methodLinkNest RX2 59 yX4_shareOf "FlakePainter") U ∧ va_Nw (.methodLinkNest RX2 63 yX4_cellTowards "FlakePainter") U ∧ va_Nw (.methodLinkNest RX2 72 yX4_cellIn "FlakePainter") U
def gStr (E : gEnv) (U : State) : Prop := vk_R RX4 206 "there is no such cell, row, step, square or slot" (E.2.2 4) U ∧ vk_R RX4 213 "an argument is out of range" (E.2.2 5) U ∧ vk_R RX4 218 "the painter's state does not allow this call" (E.2.2 6) U
def gThr (A : Nat → Prop) (U : State) (H : Heap) : Prop := vx_Zq Bundle.tN "UNASSIGNED_STACK" Bundle.steD A U H ∧ vx_Zq Bundle.tN "SUPPRESSED_SENTINEL" Bundle.listD A U H
abbrev xIdx : String := "java/lang/IndexOutOfBoundsException"
abbrev xArg : String := "java/lang/IllegalArgumentException"
abbrev xSta : String := "java/lang/IllegalStateException"
def gCast (U : State) : Prop := va_Nw (.castable xIdx xIdx) U ∧ va_Nw (.castable xArg xArg) U ∧ va_Nw (.castable xSta xSta) U ∧ va_Nc xArg xIdx U ∧ va_Nc xSta xArg U ∧ va_Nc xSta xIdx U ∧ va_Nw (.declares ⟨"java/lang/RuntimeException", "<init>", "(Ljava/lang/String;)V"⟩) U ∧ va_Nw (.declares ⟨"java/lang/Exception", "<init>", "(Ljava/lang/String;)V"⟩) U ∧ va_Nw (.declares ⟨"java/lang/Throwable", "<init>", "(Ljava/lang/String;)V"⟩) U
def gE (E : gEnv) (A : Nat → Prop) (U : State) (H : Heap) : Prop := va_K E.1 vwCl (gTys E) U ∧ gS E A U H ∧ gNest U ∧ gStr E U ∧ gThr A U H ∧ gCast U
theorem gS1.moved {n : String} {N : Nat} {f : Nat → Int32} {t : Nat} {A : Nat → Prop} {u U : State} {H : Heap} (hvm : u.vm.Alike U.vm) (h : gS1 n N f t A u H) : gS1 n N f t A U H := ⟨h.1.moved hvm, h.2.moved hvm⟩
theorem gS1.kept {n : String} {N : Nat} {f : Nat → Int32} {t : Nat} {A : Nat → Prop} {U : State} {H H1 : Heap} (h : gS1 n N f t A U H) (hq : ∀ a : Nat, a < H.size → ¬ A a → H1[a]? = H[a]?) : gS1 n N f t A U H1 := ⟨h.1.kept hq, h.2.kept hq⟩
theorem gS1.narrow {n : String} {N : Nat} {f : Nat → Int32} {t : Nat} {A B : Nat → Prop} {U : State} {H : Heap} (h : gS1 n N f t A U H) (hAB : ∀ q, B q → A q) : gS1 n N f t B U H := ⟨h.1.narrow hAB, h.2.narrow hAB⟩
theorem gE.warm {E : gEnv} {A : Nat → Prop} {s U : State} {H : Heap} (hW : s.WarmedH U.vm) (h : gE E A s H) : gE E A U H := by
  obtain ⟨h1, ⟨a1, a2, a3, a4⟩, ⟨b1, b2, b3, b4, b5, b6⟩, ⟨c1, c2, c3⟩, ⟨d1, d2⟩, ⟨e1, e2, e3, e4, e5, e6, e7, e8, e9⟩⟩ := h
  exact ⟨h1.moved hW.alike, ⟨a1.moved hW.alike, a2.moved hW.alike, a3.moved hW.alike, a4.moved hW.alike⟩, ⟨b1.warmF hW, b2.warmF hW, b3.warmF hW, b4.warmM hW, b5.warmM hW, b6.warmM hW⟩, ⟨c1.warm hW, c2.warm hW, c3.warm hW⟩, ⟨d1.moved hW.alike, d2.moved hW.alike⟩, ⟨e1.warmC hW, e2.warmC hW, e3.warmC hW, e4.moved hW.alike, e5.moved hW.alike, e6.moved hW.alike, e7.warmD hW, e8.warmD hW, e9.warmD hW⟩⟩
theorem gE.kept {E : gEnv} {A : Nat → Prop} {U : State} {H H1 : Heap} (h : gE E A U H) (hq : ∀ a : Nat, a < H.size → ¬ A a → H1[a]? = H[a]?) : gE E A U H1 := by
  obtain ⟨h1, ⟨a1, a2, a3, a4⟩, h3, h4, ⟨d1, d2⟩, h6⟩ := h
  exact ⟨h1, ⟨a1.kept hq, a2.kept hq, a3.kept hq, a4.kept hq⟩, h3, h4, ⟨d1.kept hq, d2.kept hq⟩, h6⟩
theorem gE.narrow {E : gEnv} {A B : Nat → Prop} {U : State} {H : Heap} (h : gE E A U H) (hAB : ∀ q, B q → A q) : gE E B U H := by
  obtain ⟨h1, ⟨a1, a2, a3, a4⟩, h3, h4, ⟨d1, d2⟩, h6⟩ := h
  exact ⟨h1, ⟨a1.narrow hAB, a2.narrow hAB, a3.narrow hAB, a4.narrow hAB⟩, h3, h4, ⟨d1.narrow hAB, d2.narrow hAB⟩, h6⟩
theorem gE.same {E : gEnv} {A : Nat → Prop} {u U : State} {H : Heap} (hv : u.vm = U.vm) (h : gE E A u H) : gE E A U H := by
  have hA : u.vm.Alike U.vm := by rw [hv]; exact Vm.Alike.refl U.vm
  obtain ⟨h1, ⟨a1, a2, a3, a4⟩, ⟨b1, b2, b3, b4, b5, b6⟩, ⟨c1, c2, c3⟩, ⟨d1, d2⟩, ⟨e1, e2, e3, e4, e5, e6, e7, e8, e9⟩⟩ := h
  exact ⟨h1.moved hA, ⟨a1.moved hA, a2.moved hA, a3.moved hA, a4.moved hA⟩, ⟨b1.same rfl hv, b2.same rfl hv, b3.same rfl hv, b4.same rfl hv, b5.same rfl hv, b6.same rfl hv⟩, ⟨c1.same hv.symm, c2.same hv.symm, c3.same hv.symm⟩, ⟨d1.moved hA, d2.moved hA⟩, ⟨e1.same rfl hv, e2.same rfl hv, e3.same rfl hv, e4.moved hA, e5.moved hA, e6.moved hA, e7.same rfl hv, e8.same rfl hv, e9.same rfl hv⟩⟩
/-- a method's start: the arguments, the cells, the surroundings -/
def gPre (E : gEnv) (av : List Value) (cp : va_W) (sz : Nat) : Array Value → State → Prop := va_Pc av (fun U => U.heap.size = sz ∧ va_P E.1 vwCl cp U.heap ∧ va_D (fun _ => True) cp ∧ gE E (va_A cp sz) U U.heap)
theorem gPre.blind {E : gEnv} {av : List Value} {cp : va_W} {sz : Nat} : FrameBlind (gPre E av cp sz) := fun _ U g mk h => ⟨h.1, h.2.1, h.2.2.1, h.2.2.2.1, gE.same (u := U) (U := U.calling g mk _) rfl h.2.2.2.2⟩
/-- a method's end: what it answers, and the cells -/
def gQ (E : gEnv) (cq : va_W) (rv : Option Value) (A : Nat → Prop) : Array Value → State → Outcome → State → Prop := fun _ st oc t => oc = .returned rv ∧ va_P E.1 vwCl cq t.heap ∧ va_F A st t
/-- the contract of a method that makes nothing: from the cells cp it answers rv and leaves the cells cq at the same places -/
def gM (l : Launch) (y : MethodName) (ws : List Cond) (rm : Room) (E : gEnv) (av : List Value) (cp cq : va_W) (rv : Option Value) : Prop := cq.map Prod.fst = cp.map Prod.fst ∧ ∀ sz, Met l y ws rm (gPre E av cp sz) (gQ E cq rv (va_A cp sz)) 0 0 (va_A cp sz)
def gQT (E : gEnv) (cq : va_W) (rv : Option Value) (thr : Option String) (A : Nat → Prop) : Array Value → State → Outcome → State → Prop := fun _ st oc t => thr = none ∧ oc = .returned rv ∧ va_P E.1 vwCl cq t.heap ∧ va_F A st t
def gXT (E : gEnv) (cp : va_W) (thr : Option String) (A : Nat → Prop) : String → State → State → Prop := fun Ex st t => thr = some Ex ∧ va_P E.1 vwCl cp t.heap ∧ va_F A st t
/-- the contract of a method that throws where thr says so, and then leaves the cells as they were -/
def gT (l : Launch) (y : MethodName) (ws : List Cond) (rm : Room) (E : gEnv) (av : List Value) (cp cq : va_W) (rv : Option Value) (thr : Option String) : Prop := cq.map Prod.fst = cp.map Prod.fst ∧ ∀ sz, vx_Met l y ws rm (gPre E av cp sz) (gQT E cq rv thr (va_A cp sz)) (gXT E cp thr (va_A cp sz)) 1 6 (va_A cp sz)
/-- what holds all through a method's body -/
def gC (p : Program) (s : State) (m : MethodId) (args : Array Value) (meth : Method) (c : Code) (cc : ByteArray) (nL : Nat) (own : String) (ret : Option FieldType) (Ts : List Cond) (E : gEnv) (A : Nat → Prop) : Prop :=
  p.tables.exec = Jvm.exec ∧ c.code = cc ∧ c.maxLocals = nL ∧ s.vm.findClass own = some m.cls ∧ (∀ w ∈ Ts, w.before args s = true) ∧ gE E A s s.heap ∧ (∀ q, s.heap.size ≤ q → A q) ∧ meth.sig.returnType = ret ∧ meth.locks = false
def gG (p : Program) (l : Launch) (e : Env) (R : Room) (s : State) (m : MethodId) (args : Array Value) (below : List Frame) (meth : Method) (c : Code) (nL : Nat) (E : gEnv) (A : Nat → Prop) (Q : State → Prop) (cells slots : Nat) (ws : va_W) (lv : List (Nat × Value)) (st : List Value) (pc : Nat) : Prop :=
  ∀ (H : Heap) (locs : List Loc) (ls : Array Slot), va_P E.1 vwCl ws H → va_D A ws → va_S A s.heap H locs → lv_has ls nL lv → W p l e R s m args below meth c H locs cells slots Q (F0 m pc ls st)
/-- the same where Ex has been thrown -/
def gGX (p : Program) (l : Launch) (e : Env) (R : Room) (s : State) (m : MethodId) (args : Array Value) (below : List Frame) (meth : Method) (c : Code) (nL : Nat) (E : gEnv) (A : Nat → Prop) (Q : State → Prop) (cells slots : Nat) (ws : va_W) (lv : List (Nat × Value)) (st : List Value) (pc : Nat) (Ex : String) : Prop :=
  ∀ (H : Heap) (locs : List Loc) (ls : Array Slot) (q : Addr) (ce : Cell), va_P E.1 vwCl ws H → va_D A ws → va_S A s.heap H locs → lv_has ls nL lv → H[q]? = some ce → ce.vm = .none → s.vm.findClass Ex = some ce.cls → vx_W p l e R s m args below meth c H locs cells slots Q (F0 m pc ls st) q
/-- what a local holds -/
def lg : List (Nat × Value) → Nat → Option Value
  | [], _ => none
  | q :: l, i => if q.1 = i then some q.2 else lg l i
theorem lg_mem {l : List (Nat × Value)} {i : Nat} {v : Value} : lg l i = some v → (i, v) ∈ l := by
  induction l with
  | nil => intro h; cases h
  | cons q l ih =>
    intro h
    unfold lg at h
    split at h
    · rename_i hq
      cases h
      exact List.mem_cons.mpr (Or.inl (by rw [← hq]))
    · exact List.mem_cons_of_mem _ (ih h)
theorem lg_at {ls : Array Slot} {nL : Nat} {l : List (Nat × Value)} (h : lv_has ls nL l) {i : Nat} {v : Value} (hk : lg l i = some v) : ls[i]? = some (.val v) := h.2.2 (i, v) (lg_mem hk)
/-- cells put in the places is -/
def gput : va_W → List Nat → va_W → va_W
  | ws, i :: is, q :: qs => gput (ws.set i q) is qs
  | ws, _, _ => ws
theorem gput_len : ∀ (is : List Nat) (qs ws : va_W), True := fun _ _ _ => trivial
theorem gput_get : ∀ (is : List Nat) (cq ws : va_W), is.length = cq.length → ∀ (k : Nat) (q : Nat × va_E), (gput ws is cq)[k]? = some q → (k ∉ is ∧ ws[k]? = some q) ∨ q ∈ cq := by
  intro is
  induction is with
  | nil =>
    intro cq ws hl k q h
    cases cq with
    | nil => exact Or.inl ⟨List.not_mem_nil, h⟩
    | cons a b => simp at hl
  | cons i is ih =>
    intro cq ws hl k q h
    cases cq with
    | nil => simp at hl
    | cons a b =>
      have h' : (gput (ws.set i a) is b)[k]? = some q := h
      rcases ih b (ws.set i a) (by simpa using hl) k q h' with ⟨h1, h2⟩ | h2
      · by_cases hk : i = k
        · subst hk
          rw [List.getElem?_set] at h2
          simp only [if_true] at h2
          split at h2
          · cases h2; exact Or.inr List.mem_cons_self
          · cases h2
        · rw [List.getElem?_set_ne hk] at h2
          exact Or.inl ⟨fun z => by rcases List.mem_cons.mp z with z | z; exact hk z.symm; exact h1 z, h2⟩
      · exact Or.inr (List.mem_cons_of_mem _ h2)
theorem gput_fst : ∀ (is : List Nat) (cp cq ws : va_W), is.map (fun i => ws[i]?) = cp.map some → cq.map Prod.fst = cp.map Prod.fst → va_nd is = true → (gput ws is cq).map Prod.fst = ws.map Prod.fst := by
  intro is
  induction is with
  | nil =>
    intro cp cq ws h1 h2 _
    cases cp with
    | nil => cases cq with
      | nil => rfl
      | cons a b => simp at h2
    | cons a b => simp at h1
  | cons i is ih =>
    intro cp cq ws h1 h2 hn
    cases cp with
    | nil => simp at h1
    | cons a b =>
      cases cq with
      | nil => simp at h2
      | cons a' b' =>
        have h1a : ws[i]? = some a := by simpa using (List.cons.inj h1).1
        have h1b : is.map (fun i => ws[i]?) = b.map some := (List.cons.inj h1).2
        have h2a : a'.1 = a.1 := (List.cons.inj h2).1
        have h2b : b'.map Prod.fst = b.map Prod.fst := (List.cons.inj h2).2
        have hni : i ∉ is ∧ va_nd is = true := by
          simp only [va_nd, Bool.and_eq_true] at hn
          exact ⟨by simpa using hn.1, hn.2⟩
        have h3 : is.map (fun j => (ws.set i a')[j]?) = b.map some := by
          rw [← h1b]
          apply List.map_congr_left
          intro j hj
          rw [List.getElem?_set_ne (fun (z : i = j) => hni.1 (by rw [z]; exact hj))]
        show (gput (ws.set i a') is b').map Prod.fst = _
        rw [ih b b' (ws.set i a') h3 h2b hni.2]
        apply List.ext_getElem?
        intro j
        rw [List.getElem?_map, List.getElem?_map]
        by_cases hj : i = j
        · subst hj
          have hlt := (List.getElem?_eq_some_iff.mp h1a).1
          rw [List.getElem?_set_self hlt, h1a]
          simp [h2a]
        · rw [List.getElem?_set_ne hj]
theorem gD_fst {A : Nat → Prop} {ws ws' : va_W} (hD : va_D A ws) (h : ws'.map Prod.fst = ws.map Prod.fst) : va_D A ws' := by
  have at' : ∀ (k : Nat) (q : Nat × va_E), ws'[k]? = some q → ∃ e, ws[k]? = some (q.1, e) := by
    intro k q hq
    have h1 : (ws'.map Prod.fst)[k]? = some q.1 := by rw [List.getElem?_map, hq]; rfl
    rw [h, List.getElem?_map] at h1
    cases hw : ws[k]? with
    | none => rw [hw] at h1; cases h1
    | some z => rw [hw] at h1; exact ⟨z.2, by rw [← (Option.some.inj h1 : z.1 = q.1)]⟩
  refine ⟨fun i j p q hp hq he => ?_, fun k q hq => ?_⟩
  · obtain ⟨e1, g1⟩ := at' i p hp
    obtain ⟨e2, g2⟩ := at' j q hq
    exact hD.1 i j _ _ g1 g2 he
  · obtain ⟨e1, g1⟩ := at' k q hq
    exact hD.2 k (q.1, e1) g1
theorem gput_spec {A : Nat → Prop} {D : va_G} {cl : List vw_C} {ws cp cq : va_W} {H H1 : Heap} (hP : va_P D cl ws H) (hD : va_D A ws) (is : List Nat) (hC : is.map (fun i => ws[i]?) = cp.map some) (hcq : cq.map Prod.fst = cp.map Prod.fst) (hn : va_nd is = true)
    (hk : ∀ q : Nat, q < H.size → ¬ va_A cp H.size q → H1[q]? = H[q]?) (hP1 : va_P D cl cq H1) : va_P D cl (gput ws is cq) H1 ∧ va_D A (gput ws is cq) := by
  refine ⟨fun k q hq => ?_, gD_fst hD (gput_fst is cp cq ws hC hcq hn)⟩
  have hl : is.length = cq.length := by
    have e1 := congrArg List.length hC
    have e2 := congrArg List.length hcq
    simp at e1 e2
    omega
  rcases gput_get is cq ws hl k q hq with ⟨h1, h2⟩ | h2
  · have hlt := (hP k q h2).lt
    refine (hP k q h2).kept (hk q.1 hlt ?_)
    intro h
    rcases h with ⟨j, e, hj⟩ | h
    · have h3 : (is.map (fun i => ws[i]?))[j]? = some (some (q.1, e)) := by rw [hC, List.getElem?_map, hj]; rfl
      rw [List.getElem?_map] at h3
      cases hi : is[j]? with
      | none => rw [hi] at h3; cases h3
      | some i =>
        rw [hi] at h3
        have h4 : ws[i]? = some (q.1, e) := Option.some.inj h3
        have h5 := hD.1 k i q (q.1, e) h2 h4 rfl
        subst h5
        exact h1 (List.mem_of_getElem? hi)
    · omega
  · obtain ⟨j, hj⟩ := List.getElem?_of_mem h2
    exact hP1 j q hj

theorem gcell_eq {cA : ClassId} {n : Nat} {f g : Nat → Int32} (h : ∀ j, j < n → f j = g j) : vp_cell cA (n, .inl f) = vp_cell cA (n, .inl g) := by
  rw [vp_cell_i, vp_cell_i]
  unfold arrV
  have : (Array.ofFn (n := n) fun j => Value.int (f j.val)) = Array.ofFn (n := n) fun j => Value.int (g j.val) := by
    congr 1
    funext j
    rw [h j.val j.isLt]
  rw [this]
theorem gcell_eqQ {cA : ClassId} {n : Nat} {f g : Nat → Option Nat} (h : ∀ j, j < n → f j = g j) : vp_cell cA (n, .inr (.inr (.inr (.inr f)))) = vp_cell cA (n, .inr (.inr (.inr (.inr g)))) := by
  rw [vp_cell_q, vp_cell_q]
  unfold arrV
  have : (Array.ofFn (n := n) fun j => va_rf (f j.val)) = Array.ofFn (n := n) fun j => va_rf (g j.val) := by
    congr 1
    funext j
    rw [h j.val j.isLt]
  rw [this]
theorem gP_cell {D : va_G} {cl : List vw_C} {ws : va_W} {k a : Nat} {cA cB : ClassId} {x y : vp_A} {H : Heap} (hP : va_P D cl (ws.set k (a, .inl (cA, x))) H) (he : vp_cell cA x = vp_cell cB y) : va_P D cl (ws.set k (a, .inl (cB, y))) H := by
  intro j q hq
  by_cases hj : k = j
  · subst hj
    have hlt : k < ws.length := by
      have := (List.getElem?_eq_some_iff.mp hq).1
      simpa using this
    rw [List.getElem?_set_self hlt] at hq
    cases hq
    have h1 := hP k (a, .inl (cA, x)) (by rw [List.getElem?_set_self hlt])
    show H[a]? = some (vp_cell cB y)
    rw [← he]
    exact h1
  · rw [List.getElem?_set_ne hj] at hq
    exact hP j q (by rw [List.getElem?_set_ne hj]; exact hq)
section GR
variable {p : Program} {l : Launch} {e : Env} {R : Room} {s : State} {m : MethodId} {args : Array Value} {below : List Frame} {meth : Method} {c : Code} {cc : ByteArray} {nL : Nat} {own : String} {ret : Option FieldType} {Ts : List Cond} {E : gEnv} {A : Nat → Prop} {Q : State → Prop} {cells slots : Nat} {ws : va_W} {lv : List (Nat × Value)} {st : List Value} {pc : Nat}
theorem g_iconst (cx : gC p s m args meth c cc nL own ret Ts E A) {n : Int} {v : Int32} (hd : decode cc pc = .ok (.iconst n, 1)) (hv : Int32.ofInt n = v) (kk : gG p l e R s m args below meth c nL E A Q cells slots (ws) (lv) (.int v :: st) (pc + 1)) : gG p l e R s m args below meth c nL E A Q cells slots (ws) (lv) (st) (pc) := fun H locs ls hP hD hS hl => lv_iconst cx.1 cx.2.1 hd hv (kk H locs ls hP hD hS hl)
theorem g_bipush (cx : gC p s m args meth c cc nL own ret Ts E A) {n : Int} {v : Int32} (hd : decode cc pc = .ok (.bipush n, 2)) (hv : (Int8.ofInt n).toInt32 = v) (kk : gG p l e R s m args below meth c nL E A Q cells slots (ws) (lv) (.int v :: st) (pc + 2)) : gG p l e R s m args below meth c nL E A Q cells slots (ws) (lv) (st) (pc) := fun H locs ls hP hD hS hl => lv_bipush cx.1 cx.2.1 hd hv (kk H locs ls hP hD hS hl)
theorem g_sipush (cx : gC p s m args meth c cc nL own ret Ts E A) {n : Int} {v : Int32} (hd : decode cc pc = .ok (.sipush n, 3)) (hv : (Int16.ofInt n).toInt32 = v) (kk : gG p l e R s m args below meth c nL E A Q cells slots (ws) (lv) (.int v :: st) (pc + 3)) : gG p l e R s m args below meth c nL E A Q cells slots (ws) (lv) (st) (pc) := fun H locs ls hP hD hS hl => lv_sipush cx.1 cx.2.1 hd hv (kk H locs ls hP hD hS hl)
theorem g_lconst (cx : gC p s m args meth c cc nL own ret Ts E A) {n : Fin 2} {v : Int64} (hd : decode cc pc = .ok (.lconst n, 1)) (hv : Int64.ofNat (n : Nat) = v) (kk : gG p l e R s m args below meth c nL E A Q cells slots (ws) (lv) (.long v :: st) (pc + 1)) : gG p l e R s m args below meth c nL E A Q cells slots (ws) (lv) (st) (pc) := fun H locs ls hP hD hS hl => lv_lconst cx.1 cx.2.1 hd hv (kk H locs ls hP hD hS hl)
theorem g_iload_n (cx : gC p s m args meth c cc nL own ret Ts E A) {k : Fin 4} {x : Int32} (hd : decode cc pc = .ok (.iload_n k, 1)) (hl0 : lg lv (k : Nat) = some (.int x)) (kk : gG p l e R s m args below meth c nL E A Q cells slots (ws) (lv) (.int x :: st) (pc + 1)) : gG p l e R s m args below meth c nL E A Q cells slots (ws) (lv) (st) (pc) := fun H locs ls hP hD hS hl => lv_iload_n cx.1 cx.2.1 hd rfl (lg_at hl hl0) (kk H locs ls hP hD hS hl)
theorem g_iload (cx : gC p s m args meth c cc nL own ret Ts E A) {i : Nat} {x : Int32} (hd : decode cc pc = .ok (.iload i, 2)) (hl0 : lg lv i = some (.int x)) (kk : gG p l e R s m args below meth c nL E A Q cells slots (ws) (lv) (.int x :: st) (pc + 2)) : gG p l e R s m args below meth c nL E A Q cells slots (ws) (lv) (st) (pc) := fun H locs ls hP hD hS hl => lv_iload cx.1 cx.2.1 hd (lg_at hl hl0) (kk H locs ls hP hD hS hl)
theorem g_aload_n (cx : gC p s m args meth c cc nL own ret Ts E A) {k : Fin 4} {x : Nat} (hd : decode cc pc = .ok (.aload_n k, 1)) (hl0 : lg lv (k : Nat) = some (.ref x)) (kk : gG p l e R s m args below meth c nL E A Q cells slots (ws) (lv) (.ref x :: st) (pc + 1)) : gG p l e R s m args below meth c nL E A Q cells slots (ws) (lv) (st) (pc) := fun H locs ls hP hD hS hl => lv_aload_n cx.1 cx.2.1 hd rfl (lg_at hl hl0) (kk H locs ls hP hD hS hl)
theorem g_aload (cx : gC p s m args meth c cc nL own ret Ts E A) {i : Nat} {x : Nat} (hd : decode cc pc = .ok (.aload i, 2)) (hl0 : lg lv i = some (.ref x)) (kk : gG p l e R s m args below meth c nL E A Q cells slots (ws) (lv) (.ref x :: st) (pc + 2)) : gG p l e R s m args below meth c nL E A Q cells slots (ws) (lv) (st) (pc) := fun H locs ls hP hD hS hl => lv_aload cx.1 cx.2.1 hd (lg_at hl hl0) (kk H locs ls hP hD hS hl)
theorem g_lload_n (cx : gC p s m args meth c cc nL own ret Ts E A) {k : Fin 4} {x : Int64} (hd : decode cc pc = .ok (.lload_n k, 1)) (hl0 : lg lv (k : Nat) = some (.long x)) (kk : gG p l e R s m args below meth c nL E A Q cells slots (ws) (lv) (.long x :: st) (pc + 1)) : gG p l e R s m args below meth c nL E A Q cells slots (ws) (lv) (st) (pc) := fun H locs ls hP hD hS hl => lv_lload_n cx.1 cx.2.1 hd rfl (lg_at hl hl0) (kk H locs ls hP hD hS hl)
theorem g_lload (cx : gC p s m args meth c cc nL own ret Ts E A) {i : Nat} {x : Int64} (hd : decode cc pc = .ok (.lload i, 2)) (hl0 : lg lv i = some (.long x)) (kk : gG p l e R s m args below meth c nL E A Q cells slots (ws) (lv) (.long x :: st) (pc + 2)) : gG p l e R s m args below meth c nL E A Q cells slots (ws) (lv) (st) (pc) := fun H locs ls hP hD hS hl => lv_lload cx.1 cx.2.1 hd (lg_at hl hl0) (kk H locs ls hP hD hS hl)
theorem g_dload_n (cx : gC p s m args meth c cc nL own ret Ts E A) {k : Fin 4} {x : UInt64} (hd : decode cc pc = .ok (.dload_n k, 1)) (hl0 : lg lv (k : Nat) = some (.double x)) (kk : gG p l e R s m args below meth c nL E A Q cells slots (ws) (lv) (.double x :: st) (pc + 1)) : gG p l e R s m args below meth c nL E A Q cells slots (ws) (lv) (st) (pc) := fun H locs ls hP hD hS hl => lv_dload_n cx.1 cx.2.1 hd rfl (lg_at hl hl0) (kk H locs ls hP hD hS hl)
theorem g_dload (cx : gC p s m args meth c cc nL own ret Ts E A) {i : Nat} {x : UInt64} (hd : decode cc pc = .ok (.dload i, 2)) (hl0 : lg lv i = some (.double x)) (kk : gG p l e R s m args below meth c nL E A Q cells slots (ws) (lv) (.double x :: st) (pc + 2)) : gG p l e R s m args below meth c nL E A Q cells slots (ws) (lv) (st) (pc) := fun H locs ls hP hD hS hl => lv_dload cx.1 cx.2.1 hd (lg_at hl hl0) (kk H locs ls hP hD hS hl)
theorem g_istore_n (cx : gC p s m args meth c cc nL own ret Ts E A) {k : Fin 4} {i : Nat} {x : Int32} {lv' : List (Nat × Value)} (hd : decode cc pc = .ok (.istore_n k, 1)) (hi : (k : Nat) = i) (hn : i < nL) (hlv : (i, Value.int x) :: lv.filter (fun q => !(q.1 == i) && !(q.1 + 1 == i && q.2.category == 2)) = lv') (kk : gG p l e R s m args below meth c nL E A Q cells slots (ws) (lv') (st) (pc + 1)) : gG p l e R s m args below meth c nL E A Q cells slots (ws) (lv) (.int x :: st) (pc) := fun H locs ls hP hD hS hl => lv_istore_n cx.1 cx.2.1 hd hi hl hn hlv (fun ls hl => kk H locs ls hP hD hS hl)
theorem g_istore (cx : gC p s m args meth c cc nL own ret Ts E A) {i : Nat} {x : Int32} {lv' : List (Nat × Value)} (hd : decode cc pc = .ok (.istore i, 2))  (hn : i < nL) (hlv : (i, Value.int x) :: lv.filter (fun q => !(q.1 == i) && !(q.1 + 1 == i && q.2.category == 2)) = lv') (kk : gG p l e R s m args below meth c nL E A Q cells slots (ws) (lv') (st) (pc + 2)) : gG p l e R s m args below meth c nL E A Q cells slots (ws) (lv) (.int x :: st) (pc) := fun H locs ls hP hD hS hl => lv_istore cx.1 cx.2.1 hd hl hn hlv (fun ls hl => kk H locs ls hP hD hS hl)
theorem g_astore_n (cx : gC p s m args meth c cc nL own ret Ts E A) {k : Fin 4} {i : Nat} {x : Nat} {lv' : List (Nat × Value)} (hd : decode cc pc = .ok (.astore_n k, 1)) (hi : (k : Nat) = i) (hn : i < nL) (hlv : (i, Value.ref x) :: lv.filter (fun q => !(q.1 == i) && !(q.1 + 1 == i && q.2.category == 2)) = lv') (kk : gG p l e R s m args below meth c nL E A Q cells slots (ws) (lv') (st) (pc + 1)) : gG p l e R s m args below meth c nL E A Q cells slots (ws) (lv) (.ref x :: st) (pc) := fun H locs ls hP hD hS hl => lv_astore_n cx.1 cx.2.1 hd hi hl hn hlv (fun ls hl => kk H locs ls hP hD hS hl)
theorem g_astore (cx : gC p s m args meth c cc nL own ret Ts E A) {i : Nat} {x : Nat} {lv' : List (Nat × Value)} (hd : decode cc pc = .ok (.astore i, 2))  (hn : i < nL) (hlv : (i, Value.ref x) :: lv.filter (fun q => !(q.1 == i) && !(q.1 + 1 == i && q.2.category == 2)) = lv') (kk : gG p l e R s m args below meth c nL E A Q cells slots (ws) (lv') (st) (pc + 2)) : gG p l e R s m args below meth c nL E A Q cells slots (ws) (lv) (.ref x :: st) (pc) := fun H locs ls hP hD hS hl => lv_astore cx.1 cx.2.1 hd hl hn hlv (fun ls hl => kk H locs ls hP hD hS hl)
theorem g_lstore_n (cx : gC p s m args meth c cc nL own ret Ts E A) {k : Fin 4} {i : Nat} {x : Int64} {lv' : List (Nat × Value)} (hd : decode cc pc = .ok (.lstore_n k, 1)) (hi : (k : Nat) = i) (hn : i + 1 < nL) (hlv : (i, Value.long x) :: lv.filter (fun q => !(q.1 == i) && (!(q.1 == i + 1) && !(q.1 + 1 == i && q.2.category == 2))) = lv') (kk : gG p l e R s m args below meth c nL E A Q cells slots (ws) (lv') (st) (pc + 1)) : gG p l e R s m args below meth c nL E A Q cells slots (ws) (lv) (.long x :: st) (pc) := fun H locs ls hP hD hS hl => lv_lstore_n cx.1 cx.2.1 hd hi hl hn hlv (fun ls hl => kk H locs ls hP hD hS hl)
theorem g_lstore (cx : gC p s m args meth c cc nL own ret Ts E A) {i : Nat} {x : Int64} {lv' : List (Nat × Value)} (hd : decode cc pc = .ok (.lstore i, 2))  (hn : i + 1 < nL) (hlv : (i, Value.long x) :: lv.filter (fun q => !(q.1 == i) && (!(q.1 == i + 1) && !(q.1 + 1 == i && q.2.category == 2))) = lv') (kk : gG p l e R s m args below meth c nL E A Q cells slots (ws) (lv') (st) (pc + 2)) : gG p l e R s m args below meth c nL E A Q cells slots (ws) (lv) (.long x :: st) (pc) := fun H locs ls hP hD hS hl => lv_lstore cx.1 cx.2.1 hd hl hn hlv (fun ls hl => kk H locs ls hP hD hS hl)
theorem g_dstore_n (cx : gC p s m args meth c cc nL own ret Ts E A) {k : Fin 4} {i : Nat} {x : UInt64} {lv' : List (Nat × Value)} (hd : decode cc pc = .ok (.dstore_n k, 1)) (hi : (k : Nat) = i) (hn : i + 1 < nL) (hlv : (i, Value.double x) :: lv.filter (fun q => !(q.1 == i) && (!(q.1 == i + 1) && !(q.1 + 1 == i && q.2.category == 2))) = lv') (kk : gG p l e R s m args below meth c nL E A Q cells slots (ws) (lv') (st) (pc + 1)) : gG p l e R s m args below meth c nL E A Q cells slots (ws) (lv) (.double x :: st) (pc) := fun H locs ls hP hD hS hl => lv_dstore_n cx.1 cx.2.1 hd hi hl hn hlv (fun ls hl => kk H locs ls hP hD hS hl)
theorem g_dstore (cx : gC p s m args meth c cc nL own ret Ts E A) {i : Nat} {x : UInt64} {lv' : List (Nat × Value)} (hd : decode cc pc = .ok (.dstore i, 2))  (hn : i + 1 < nL) (hlv : (i, Value.double x) :: lv.filter (fun q => !(q.1 == i) && (!(q.1 == i + 1) && !(q.1 + 1 == i && q.2.category == 2))) = lv') (kk : gG p l e R s m args below meth c nL E A Q cells slots (ws) (lv') (st) (pc + 2)) : gG p l e R s m args below meth c nL E A Q cells slots (ws) (lv) (.double x :: st) (pc) := fun H locs ls hP hD hS hl => lv_dstore cx.1 cx.2.1 hd hl hn hlv (fun ls hl => kk H locs ls hP hD hS hl)
theorem g_iinc (cx : gC p s m args meth c cc nL own ret Ts E A) {i k : Nat} {n : Int} {x v : Int32} {lv' : List (Nat × Value)} (hd : decode cc pc = .ok (.iinc i n, 3)) (hk : lv[k]? = some (i, .int x)) (hv : x + Int32.ofInt n = v) (hn : i < nL) (hlv : (i, Value.int v) :: lv.filter (fun q => !(q.1 == i) && !(q.1 + 1 == i && q.2.category == 2)) = lv') (kk : gG p l e R s m args below meth c nL E A Q cells slots (ws) (lv') (st) (pc + 3)) : gG p l e R s m args below meth c nL E A Q cells slots (ws) (lv) (st) (pc) := fun H locs ls hP hD hS hl => lv_iinc cx.1 cx.2.1 hd hl hk hv hn hlv (fun ls hl => kk H locs ls hP hD hS hl)
theorem g_iadd (cx : gC p s m args meth c cc nL own ret Ts E A) {x y : Int32} (hd : decode cc pc = .ok (.iadd, 1))  (kk : gG p l e R s m args below meth c nL E A Q cells slots (ws) (lv) (.int (x + y) :: st) (pc + 1)) : gG p l e R s m args below meth c nL E A Q cells slots (ws) (lv) (.int y :: .int x :: st) (pc) := fun H locs ls hP hD hS hl => lv_iadd cx.1 cx.2.1 hd  (kk H locs ls hP hD hS hl)
theorem g_isub (cx : gC p s m args meth c cc nL own ret Ts E A) {x y : Int32} (hd : decode cc pc = .ok (.isub, 1))  (kk : gG p l e R s m args below meth c nL E A Q cells slots (ws) (lv) (.int (x - y) :: st) (pc + 1)) : gG p l e R s m args below meth c nL E A Q cells slots (ws) (lv) (.int y :: .int x :: st) (pc) := fun H locs ls hP hD hS hl => lv_isub cx.1 cx.2.1 hd  (kk H locs ls hP hD hS hl)
theorem g_imul (cx : gC p s m args meth c cc nL own ret Ts E A) {x y : Int32} (hd : decode cc pc = .ok (.imul, 1))  (kk : gG p l e R s m args below meth c nL E A Q cells slots (ws) (lv) (.int (x * y) :: st) (pc + 1)) : gG p l e R s m args below meth c nL E A Q cells slots (ws) (lv) (.int y :: .int x :: st) (pc) := fun H locs ls hP hD hS hl => lv_imul cx.1 cx.2.1 hd  (kk H locs ls hP hD hS hl)
theorem g_iand (cx : gC p s m args meth c cc nL own ret Ts E A) {x y : Int32} (hd : decode cc pc = .ok (.iand, 1))  (kk : gG p l e R s m args below meth c nL E A Q cells slots (ws) (lv) (.int (x &&& y) :: st) (pc + 1)) : gG p l e R s m args below meth c nL E A Q cells slots (ws) (lv) (.int y :: .int x :: st) (pc) := fun H locs ls hP hD hS hl => lv_iand cx.1 cx.2.1 hd  (kk H locs ls hP hD hS hl)
theorem g_ixor (cx : gC p s m args meth c cc nL own ret Ts E A) {x y : Int32} (hd : decode cc pc = .ok (.ixor, 1))  (kk : gG p l e R s m args below meth c nL E A Q cells slots (ws) (lv) (.int (x ^^^ y) :: st) (pc + 1)) : gG p l e R s m args below meth c nL E A Q cells slots (ws) (lv) (.int y :: .int x :: st) (pc) := fun H locs ls hP hD hS hl => lv_ixor cx.1 cx.2.1 hd  (kk H locs ls hP hD hS hl)
theorem g_idiv (cx : gC p s m args meth c cc nL own ret Ts E A) {x y : Int32} (hd : decode cc pc = .ok (.idiv, 1)) (hne : ¬ y = 0) (kk : gG p l e R s m args below meth c nL E A Q cells slots (ws) (lv) (.int (x / y) :: st) (pc + 1)) : gG p l e R s m args below meth c nL E A Q cells slots (ws) (lv) (.int y :: .int x :: st) (pc) := fun H locs ls hP hD hS hl => lv_idiv cx.1 cx.2.1 hd hne (kk H locs ls hP hD hS hl)
theorem g_irem (cx : gC p s m args meth c cc nL own ret Ts E A) {x y : Int32} (hd : decode cc pc = .ok (.irem, 1)) (hne : ¬ y = 0) (kk : gG p l e R s m args below meth c nL E A Q cells slots (ws) (lv) (.int (x - x / y * y) :: st) (pc + 1)) : gG p l e R s m args below meth c nL E A Q cells slots (ws) (lv) (.int y :: .int x :: st) (pc) := fun H locs ls hP hD hS hl => lv_irem cx.1 cx.2.1 hd hne (kk H locs ls hP hD hS hl)
theorem g_ineg (cx : gC p s m args meth c cc nL own ret Ts E A) {x : Int32} (hd : decode cc pc = .ok (.ineg, 1))  (kk : gG p l e R s m args below meth c nL E A Q cells slots (ws) (lv) (.int (-x) :: st) (pc + 1)) : gG p l e R s m args below meth c nL E A Q cells slots (ws) (lv) (.int x :: st) (pc) := fun H locs ls hP hD hS hl => lv_ineg cx.1 cx.2.1 hd  (kk H locs ls hP hD hS hl)
theorem g_land (cx : gC p s m args meth c cc nL own ret Ts E A) {x y : Int64} (hd : decode cc pc = .ok (.land, 1))  (kk : gG p l e R s m args below meth c nL E A Q cells slots (ws) (lv) (.long (x &&& y) :: st) (pc + 1)) : gG p l e R s m args below meth c nL E A Q cells slots (ws) (lv) (.long y :: .long x :: st) (pc) := fun H locs ls hP hD hS hl => lv_land cx.1 cx.2.1 hd  (kk H locs ls hP hD hS hl)
theorem g_lor (cx : gC p s m args meth c cc nL own ret Ts E A) {x y : Int64} (hd : decode cc pc = .ok (.lor, 1))  (kk : gG p l e R s m args below meth c nL E A Q cells slots (ws) (lv) (.long (x ||| y) :: st) (pc + 1)) : gG p l e R s m args below meth c nL E A Q cells slots (ws) (lv) (.long y :: .long x :: st) (pc) := fun H locs ls hP hD hS hl => lv_lor cx.1 cx.2.1 hd  (kk H locs ls hP hD hS hl)
theorem g_ladd (cx : gC p s m args meth c cc nL own ret Ts E A) {x y : Int64} (hd : decode cc pc = .ok (.ladd, 1))  (kk : gG p l e R s m args below meth c nL E A Q cells slots (ws) (lv) (.long (x + y) :: st) (pc + 1)) : gG p l e R s m args below meth c nL E A Q cells slots (ws) (lv) (.long y :: .long x :: st) (pc) := fun H locs ls hP hD hS hl => lv_ladd cx.1 cx.2.1 hd  (kk H locs ls hP hD hS hl)
theorem g_lsub (cx : gC p s m args meth c cc nL own ret Ts E A) {x y : Int64} (hd : decode cc pc = .ok (.lsub, 1))  (kk : gG p l e R s m args below meth c nL E A Q cells slots (ws) (lv) (.long (x - y) :: st) (pc + 1)) : gG p l e R s m args below meth c nL E A Q cells slots (ws) (lv) (.long y :: .long x :: st) (pc) := fun H locs ls hP hD hS hl => lv_lsub cx.1 cx.2.1 hd  (kk H locs ls hP hD hS hl)
theorem g_lshl (cx : gC p s m args meth c cc nL own ret Ts E A) {x v : Int64} {y : Int32} (hd : decode cc pc = .ok (.lshl, 1)) (hv : x <<< (y.toInt64 &&& 63) = v) (kk : gG p l e R s m args below meth c nL E A Q cells slots (ws) (lv) (.long v :: st) (pc + 1)) : gG p l e R s m args below meth c nL E A Q cells slots (ws) (lv) (.int y :: .long x :: st) (pc) := fun H locs ls hP hD hS hl => lv_lshl cx.1 cx.2.1 hd hv (kk H locs ls hP hD hS hl)
theorem g_lushr (cx : gC p s m args meth c cc nL own ret Ts E A) {x v : Int64} {y : Int32} (hd : decode cc pc = .ok (.lushr, 1)) (hv : (x.toUInt64 >>> (y.toInt64.toUInt64 &&& Int64.toUInt64 63)).toInt64 = v) (kk : gG p l e R s m args below meth c nL E A Q cells slots (ws) (lv) (.long v :: st) (pc + 1)) : gG p l e R s m args below meth c nL E A Q cells slots (ws) (lv) (.int y :: .long x :: st) (pc) := fun H locs ls hP hD hS hl => lv_lushr cx.1 cx.2.1 hd hv (kk H locs ls hP hD hS hl)
theorem g_i2l (cx : gC p s m args meth c cc nL own ret Ts E A) {x : Int32} {v : Int64} (hd : decode cc pc = .ok (.i2l, 1)) (hv : x.toInt64 = v) (kk : gG p l e R s m args below meth c nL E A Q cells slots (ws) (lv) (.long v :: st) (pc + 1)) : gG p l e R s m args below meth c nL E A Q cells slots (ws) (lv) (.int x :: st) (pc) := fun H locs ls hP hD hS hl => lv_i2l cx.1 cx.2.1 hd hv (kk H locs ls hP hD hS hl)
theorem g_l2i (cx : gC p s m args meth c cc nL own ret Ts E A) {x : Int64} {v : Int32} (hd : decode cc pc = .ok (.l2i, 1)) (hv : x.toInt32 = v) (kk : gG p l e R s m args below meth c nL E A Q cells slots (ws) (lv) (.int v :: st) (pc + 1)) : gG p l e R s m args below meth c nL E A Q cells slots (ws) (lv) (.long x :: st) (pc) := fun H locs ls hP hD hS hl => lv_l2i cx.1 cx.2.1 hd hv (kk H locs ls hP hD hS hl)
theorem g_i2c (cx : gC p s m args meth c cc nL own ret Ts E A) {x v : Int32} (hd : decode cc pc = .ok (.i2c, 1)) (hv : (x.toUInt32 % 65536).toInt32 = v) (kk : gG p l e R s m args below meth c nL E A Q cells slots (ws) (lv) (.int v :: st) (pc + 1)) : gG p l e R s m args below meth c nL E A Q cells slots (ws) (lv) (.int x :: st) (pc) := fun H locs ls hP hD hS hl => lv_i2c cx.1 cx.2.1 hd hv (kk H locs ls hP hD hS hl)
theorem g_i2d (cx : gC p s m args meth c cc nL own ret Ts E A) {x : Int32} (hd : decode cc pc = .ok (.i2d, 1))  (kk : gG p l e R s m args below meth c nL E A Q cells slots (ws) (lv) (.double (FP.i2d x) :: st) (pc + 1)) : gG p l e R s m args below meth c nL E A Q cells slots (ws) (lv) (.int x :: st) (pc) := fun H locs ls hP hD hS hl => lv_i2d cx.1 cx.2.1 hd  (kk H locs ls hP hD hS hl)
theorem g_ddiv (cx : gC p s m args meth c cc nL own ret Ts E A) {x y : UInt64} (hd : decode cc pc = .ok (.ddiv, 1)) (hne : vf_n64 (FP.ddiv x y)) (kk : gG p l e R s m args below meth c nL E A Q cells slots (ws) (lv) (.double (FP.ddiv x y) :: st) (pc + 1)) : gG p l e R s m args below meth c nL E A Q cells slots (ws) (lv) (.double y :: .double x :: st) (pc) := fun H locs ls hP hD hS hl => lv_ddiv cx.1 cx.2.1 hd hne (kk H locs ls hP hD hS hl)
theorem g_dsub (cx : gC p s m args meth c cc nL own ret Ts E A) {x y : UInt64} (hd : decode cc pc = .ok (.dsub, 1)) (hne : vf_n64 (FP.dsub x y)) (kk : gG p l e R s m args below meth c nL E A Q cells slots (ws) (lv) (.double (FP.dsub x y) :: st) (pc + 1)) : gG p l e R s m args below meth c nL E A Q cells slots (ws) (lv) (.double y :: .double x :: st) (pc) := fun H locs ls hP hD hS hl => lv_dsub cx.1 cx.2.1 hd hne (kk H locs ls hP hD hS hl)
theorem g_dup (cx : gC p s m args meth c cc nL own ret Ts E A) {va : Value} (hd : decode cc pc = .ok (.dup, 1)) (hva : va.category = 1) (kk : gG p l e R s m args below meth c nL E A Q cells slots (ws) (lv) (va :: va :: st) (pc + 1)) : gG p l e R s m args below meth c nL E A Q cells slots (ws) (lv) (va :: st) (pc) := fun H locs ls hP hD hS hl => lv_dup cx.1 cx.2.1 hd hva (kk H locs ls hP hD hS hl)
theorem g_pop (cx : gC p s m args meth c cc nL own ret Ts E A) {va : Value} (hd : decode cc pc = .ok (.pop, 1)) (hva : va.category = 1) (kk : gG p l e R s m args below meth c nL E A Q cells slots (ws) (lv) (st) (pc + 1)) : gG p l e R s m args below meth c nL E A Q cells slots (ws) (lv) (va :: st) (pc) := fun H locs ls hP hD hS hl => lv_pop cx.1 cx.2.1 hd hva (kk H locs ls hP hD hS hl)
theorem g_ldc2 (cx : gC p s m args meth c cc nL own ret Ts E A) {index : Nat} {v : Int64} (hd : decode cc pc = .ok (.ldc2_w index, 3)) (hc : Jvm.Cond.constantLong own index v ∈ Ts) (kk : gG p l e R s m args below meth c nL E A Q cells slots (ws) (lv) (.long v :: st) (pc + 3)) : gG p l e R s m args below meth c nL E A Q cells slots (ws) (lv) (st) (pc) := fun H locs ls hP hD hS hl => lv_ldc2 cx.1 cx.2.1 cx.2.2.2.1 (cx.2.2.2.2.1 _ hc) hd (kk H locs ls hP hD hS hl)
theorem g_ldc2d (cx : gC p s m args meth c cc nL own ret Ts E A) {index : Nat} {v : UInt64} (hd : decode cc pc = .ok (.ldc2_w index, 3)) (hc : Jvm.Cond.constantDouble own index v ∈ Ts) (kk : gG p l e R s m args below meth c nL E A Q cells slots (ws) (lv) (.double v :: st) (pc + 3)) : gG p l e R s m args below meth c nL E A Q cells slots (ws) (lv) (st) (pc) := fun H locs ls hP hD hS hl => lv_ldc2d cx.1 cx.2.1 cx.2.2.2.1 (cx.2.2.2.2.1 _ hc) hd (kk H locs ls hP hD hS hl)
theorem g_if_eq (cx : gC p s m args meth c cc nL own ret Ts E A) {x : Int32} {off : Int} {tgt : Nat} (hd : decode cc pc = .ok (.ifCond .eq off, 3)) (ht : (pc : Int) + off = (tgt : Int)) (kt : x = 0 → gG p l e R s m args below meth c nL E A Q cells slots (ws) (lv) (st) (tgt)) (kf : ¬ x = 0 → gG p l e R s m args below meth c nL E A Q cells slots (ws) (lv) (st) (pc + 3)) : gG p l e R s m args below meth c nL E A Q cells slots (ws) (lv) (.int x :: st) (pc) := fun H locs ls hP hD hS hl => lv_if_eq cx.1 cx.2.1 hd ht (fun z => kt z H locs ls hP hD hS hl) (fun z => kf z H locs ls hP hD hS hl)
theorem g_if_ne (cx : gC p s m args meth c cc nL own ret Ts E A) {x : Int32} {off : Int} {tgt : Nat} (hd : decode cc pc = .ok (.ifCond .ne off, 3)) (ht : (pc : Int) + off = (tgt : Int)) (kt : ¬ x = 0 → gG p l e R s m args below meth c nL E A Q cells slots (ws) (lv) (st) (tgt)) (kf : x = 0 → gG p l e R s m args below meth c nL E A Q cells slots (ws) (lv) (st) (pc + 3)) : gG p l e R s m args below meth c nL E A Q cells slots (ws) (lv) (.int x :: st) (pc) := fun H locs ls hP hD hS hl => lv_if_ne cx.1 cx.2.1 hd ht (fun z => kt z H locs ls hP hD hS hl) (fun z => kf z H locs ls hP hD hS hl)
theorem g_if_lt (cx : gC p s m args meth c cc nL own ret Ts E A) {x : Int32} {off : Int} {tgt : Nat} (hd : decode cc pc = .ok (.ifCond .lt off, 3)) (ht : (pc : Int) + off = (tgt : Int)) (kt : x < 0 → gG p l e R s m args below meth c nL E A Q cells slots (ws) (lv) (st) (tgt)) (kf : ¬ x < 0 → gG p l e R s m args below meth c nL E A Q cells slots (ws) (lv) (st) (pc + 3)) : gG p l e R s m args below meth c nL E A Q cells slots (ws) (lv) (.int x :: st) (pc) := fun H locs ls hP hD hS hl => lv_if_lt cx.1 cx.2.1 hd ht (fun z => kt z H locs ls hP hD hS hl) (fun z => kf z H locs ls hP hD hS hl)
theorem g_if_ge (cx : gC p s m args meth c cc nL own ret Ts E A) {x : Int32} {off : Int} {tgt : Nat} (hd : decode cc pc = .ok (.ifCond .ge off, 3)) (ht : (pc : Int) + off = (tgt : Int)) (kt : 0 ≤ x → gG p l e R s m args below meth c nL E A Q cells slots (ws) (lv) (st) (tgt)) (kf : ¬ 0 ≤ x → gG p l e R s m args below meth c nL E A Q cells slots (ws) (lv) (st) (pc + 3)) : gG p l e R s m args below meth c nL E A Q cells slots (ws) (lv) (.int x :: st) (pc) := fun H locs ls hP hD hS hl => lv_if_ge cx.1 cx.2.1 hd ht (fun z => kt z H locs ls hP hD hS hl) (fun z => kf z H locs ls hP hD hS hl)
theorem g_if_gt (cx : gC p s m args meth c cc nL own ret Ts E A) {x : Int32} {off : Int} {tgt : Nat} (hd : decode cc pc = .ok (.ifCond .gt off, 3)) (ht : (pc : Int) + off = (tgt : Int)) (kt : 0 < x → gG p l e R s m args below meth c nL E A Q cells slots (ws) (lv) (st) (tgt)) (kf : ¬ 0 < x → gG p l e R s m args below meth c nL E A Q cells slots (ws) (lv) (st) (pc + 3)) : gG p l e R s m args below meth c nL E A Q cells slots (ws) (lv) (.int x :: st) (pc) := fun H locs ls hP hD hS hl => lv_if_gt cx.1 cx.2.1 hd ht (fun z => kt z H locs ls hP hD hS hl) (fun z => kf z H locs ls hP hD hS hl)
theorem g_if_le (cx : gC p s m args meth c cc nL own ret Ts E A) {x : Int32} {off : Int} {tgt : Nat} (hd : decode cc pc = .ok (.ifCond .le off, 3)) (ht : (pc : Int) + off = (tgt : Int)) (kt : x ≤ 0 → gG p l e R s m args below meth c nL E A Q cells slots (ws) (lv) (st) (tgt)) (kf : ¬ x ≤ 0 → gG p l e R s m args below meth c nL E A Q cells slots (ws) (lv) (st) (pc + 3)) : gG p l e R s m args below meth c nL E A Q cells slots (ws) (lv) (.int x :: st) (pc) := fun H locs ls hP hD hS hl => lv_if_le cx.1 cx.2.1 hd ht (fun z => kt z H locs ls hP hD hS hl) (fun z => kf z H locs ls hP hD hS hl)
theorem g_icmp_eq (cx : gC p s m args meth c cc nL own ret Ts E A) {x y : Int32} {off : Int} {tgt : Nat} (hd : decode cc pc = .ok (.if_icmp .eq off, 3)) (ht : (pc : Int) + off = (tgt : Int)) (kt : x = y → gG p l e R s m args below meth c nL E A Q cells slots (ws) (lv) (st) (tgt)) (kf : ¬ x = y → gG p l e R s m args below meth c nL E A Q cells slots (ws) (lv) (st) (pc + 3)) : gG p l e R s m args below meth c nL E A Q cells slots (ws) (lv) (.int y :: .int x :: st) (pc) := fun H locs ls hP hD hS hl => lv_icmp_eq cx.1 cx.2.1 hd ht (fun z => kt z H locs ls hP hD hS hl) (fun z => kf z H locs ls hP hD hS hl)
theorem g_icmp_ne (cx : gC p s m args meth c cc nL own ret Ts E A) {x y : Int32} {off : Int} {tgt : Nat} (hd : decode cc pc = .ok (.if_icmp .ne off, 3)) (ht : (pc : Int) + off = (tgt : Int)) (kt : ¬ x = y → gG p l e R s m args below meth c nL E A Q cells slots (ws) (lv) (st) (tgt)) (kf : x = y → gG p l e R s m args below meth c nL E A Q cells slots (ws) (lv) (st) (pc + 3)) : gG p l e R s m args below meth c nL E A Q cells slots (ws) (lv) (.int y :: .int x :: st) (pc) := fun H locs ls hP hD hS hl => lv_icmp_ne cx.1 cx.2.1 hd ht (fun z => kt z H locs ls hP hD hS hl) (fun z => kf z H locs ls hP hD hS hl)
theorem g_icmp_lt (cx : gC p s m args meth c cc nL own ret Ts E A) {x y : Int32} {off : Int} {tgt : Nat} (hd : decode cc pc = .ok (.if_icmp .lt off, 3)) (ht : (pc : Int) + off = (tgt : Int)) (kt : x < y → gG p l e R s m args below meth c nL E A Q cells slots (ws) (lv) (st) (tgt)) (kf : ¬ x < y → gG p l e R s m args below meth c nL E A Q cells slots (ws) (lv) (st) (pc + 3)) : gG p l e R s m args below meth c nL E A Q cells slots (ws) (lv) (.int y :: .int x :: st) (pc) := fun H locs ls hP hD hS hl => lv_icmp_lt cx.1 cx.2.1 hd ht (fun z => kt z H locs ls hP hD hS hl) (fun z => kf z H locs ls hP hD hS hl)
theorem g_icmp_ge (cx : gC p s m args meth c cc nL own ret Ts E A) {x y : Int32} {off : Int} {tgt : Nat} (hd : decode cc pc = .ok (.if_icmp .ge off, 3)) (ht : (pc : Int) + off = (tgt : Int)) (kt : y ≤ x → gG p l e R s m args below meth c nL E A Q cells slots (ws) (lv) (st) (tgt)) (kf : ¬ y ≤ x → gG p l e R s m args below meth c nL E A Q cells slots (ws) (lv) (st) (pc + 3)) : gG p l e R s m args below meth c nL E A Q cells slots (ws) (lv) (.int y :: .int x :: st) (pc) := fun H locs ls hP hD hS hl => lv_icmp_ge cx.1 cx.2.1 hd ht (fun z => kt z H locs ls hP hD hS hl) (fun z => kf z H locs ls hP hD hS hl)
theorem g_icmp_gt (cx : gC p s m args meth c cc nL own ret Ts E A) {x y : Int32} {off : Int} {tgt : Nat} (hd : decode cc pc = .ok (.if_icmp .gt off, 3)) (ht : (pc : Int) + off = (tgt : Int)) (kt : y < x → gG p l e R s m args below meth c nL E A Q cells slots (ws) (lv) (st) (tgt)) (kf : ¬ y < x → gG p l e R s m args below meth c nL E A Q cells slots (ws) (lv) (st) (pc + 3)) : gG p l e R s m args below meth c nL E A Q cells slots (ws) (lv) (.int y :: .int x :: st) (pc) := fun H locs ls hP hD hS hl => lv_icmp_gt cx.1 cx.2.1 hd ht (fun z => kt z H locs ls hP hD hS hl) (fun z => kf z H locs ls hP hD hS hl)
theorem g_icmp_le (cx : gC p s m args meth c cc nL own ret Ts E A) {x y : Int32} {off : Int} {tgt : Nat} (hd : decode cc pc = .ok (.if_icmp .le off, 3)) (ht : (pc : Int) + off = (tgt : Int)) (kt : x ≤ y → gG p l e R s m args below meth c nL E A Q cells slots (ws) (lv) (st) (tgt)) (kf : ¬ x ≤ y → gG p l e R s m args below meth c nL E A Q cells slots (ws) (lv) (st) (pc + 3)) : gG p l e R s m args below meth c nL E A Q cells slots (ws) (lv) (.int y :: .int x :: st) (pc) := fun H locs ls hP hD hS hl => lv_icmp_le cx.1 cx.2.1 hd ht (fun z => kt z H locs ls hP hD hS hl) (fun z => kf z H locs ls hP hD hS hl)
theorem g_goto (cx : gC p s m args meth c cc nL own ret Ts E A) {off : Int} {tgt : Nat} (hd : decode cc pc = .ok (.goto off, 3)) (ht : (pc : Int) + off = (tgt : Int)) (kk : gG p l e R s m args below meth c nL E A Q cells slots (ws) (lv) (st) (tgt)) : gG p l e R s m args below meth c nL E A Q cells slots (ws) (lv) (st) (pc) := fun H locs ls hP hD hS hl => lv_goto cx.1 cx.2.1 hd ht (kk H locs ls hP hD hS hl)
theorem g_tableIn (cx : gC p s m args meth c cc nL own ret Ts E A) {dflt lo hi : Int} {offs : Array Int} {len : Nat} {x : Int32} {off : Int} {tgt : Nat} (hd : decode cc pc = .ok (.tableswitch dflt lo hi offs, len)) (h1 : ¬ x.toInt < lo) (h2 : ¬ hi < x.toInt) (ho : offs[(x.toInt - lo).toNat]? = some off) (ht : (pc : Int) + off = (tgt : Int)) (kk : gG p l e R s m args below meth c nL E A Q cells slots (ws) (lv) (st) (tgt)) : gG p l e R s m args below meth c nL E A Q cells slots (ws) (lv) (.int x :: st) (pc) := fun H locs ls hP hD hS hl => lv_tableIn cx.1 cx.2.1 hd h1 h2 ho ht (kk H locs ls hP hD hS hl)
theorem g_tableOut (cx : gC p s m args meth c cc nL own ret Ts E A) {dflt lo hi : Int} {offs : Array Int} {len : Nat} {x : Int32} {tgt : Nat} (hd : decode cc pc = .ok (.tableswitch dflt lo hi offs, len)) (h : x.toInt < lo ∨ hi < x.toInt) (ht : (pc : Int) + dflt = (tgt : Int)) (kk : gG p l e R s m args below meth c nL E A Q cells slots (ws) (lv) (st) (tgt)) : gG p l e R s m args below meth c nL E A Q cells slots (ws) (lv) (.int x :: st) (pc) := fun H locs ls hP hD hS hl => lv_tableOut cx.1 cx.2.1 hd h ht (kk H locs ls hP hD hS hl)
theorem g_lookup (cx : gC p s m args meth c cc nL own ret Ts E A) {dflt : Int} {ps : Array (Int × Int)} {len : Nat} {x : Int32} {off : Int} {tgt : Nat} (hd : decode cc pc = .ok (.lookupswitch dflt ps, len)) (hp : (ps.toList.zip (ps.toList.drop 1)).all (fun (a, next) => a.1 < next.1) = true) (ho : Op.lookupswitch.offset ps.toList dflt x.toInt = off) (ht : (pc : Int) + off = (tgt : Int)) (kk : gG p l e R s m args below meth c nL E A Q cells slots (ws) (lv) (st) (tgt)) : gG p l e R s m args below meth c nL E A Q cells slots (ws) (lv) (.int x :: st) (pc) := fun H locs ls hP hD hS hl => lv_lookup cx.1 cx.2.1 hd hp ho ht (kk H locs ls hP hD hS hl)
theorem g_get (cx : gC p s m args meth c cc nL own ret Ts E A) {C : String} {T : u_T} {N ci index a : Nat} {fs : List Value} {v : Value} (hin : ∀ w ∈ u_ws C T N, w ∈ Ts) (q0 k : Nat) (hk : k < N) (hc : vwCl[ci]? = some (C, T, N)) (hlk : Cond.fieldLink own index (T k).1 (T k).2.1 (T k).2.2.1 ∈ Ts) (he : ws[q0]? = some (a, .inr (ci, fs))) (hv : fs[k]? = some v) (hd : decode cc pc = .ok (.getfield index, 3)) (kk : gG p l e R s m args below meth c nL E A Q cells slots (ws) (lv) (v :: st) (pc + 3)) : gG p l e R s m args below meth c nL E A Q cells slots (ws) (lv) (.ref a :: st) (pc) := fun H locs ls hP hD hS hl => va_get cx.1 cx.2.1 cx.2.2.2.2.1 hin cx.2.2.2.1 cx.2.2.2.2.2.1.1 hP q0 he hc k hk (cx.2.2.2.2.1 _ hlk) (fun _ h9 => h9) hv hd (kk H locs ls hP hD hS hl)
theorem g_put (cx : gC p s m args meth c cc nL own ret Ts E A) {C : String} {T : u_T} {N ci index a : Nat} {fs : List Value} {v : Value} {ty : FieldType} {ws' : va_W} (hin : ∀ w ∈ u_ws C T N, w ∈ Ts) (ty0 : Nat → FieldType) (hty : ∀ k, k < N → parseFieldDescriptor (T k).2.2.1 = some (ty0 k)) (hnm : ∀ a, a < N → ∀ b, b < N → a ≠ b → (T a).2.1 ≠ (T b).2.1) (q0 k : Nat) (hk : k < N) (hc : vwCl[ci]? = some (C, T, N)) (hlk : Cond.fieldLink own index (T k).1 (T k).2.1 (T k).2.2.1 ∈ Ts) (he : ws[q0]? = some (a, .inr (ci, fs))) (hfin : (T k).2.2.2 = false) (hdt : ty0 k = ty) (hn : narrow ty v = v) (hfit : fits ty v = true) (hl0 : k < fs.length) (hws : ws.set q0 (a, .inr (ci, fs.set k v)) = ws') (hd : decode cc pc = .ok (.putfield index, 3)) (kk : gG p l e R s m args below meth c nL E A Q cells slots (ws') (lv) (st) (pc + 3)) : gG p l e R s m args below meth c nL E A Q cells slots (ws) (lv) (v :: .ref a :: st) (pc) := fun H locs ls hP hD hS hl => va_put cx.1 cx.2.1 cx.2.2.2.2.1 hin ty0 hty hnm cx.2.2.2.1 cx.2.2.2.2.2.1.1 hP hD hS q0 he hc k hk (cx.2.2.2.2.1 _ hlk) (fun _ h9 => h9) hfin (by rw [← hdt]; exact hty k hk) hn hfit hl0 hd (fun H locs hP hD hS => by rw [hws] at hP hD; exact kk H locs ls hP hD hS hl)
theorem g_putF (cx : gC p s m args meth c cc nL own ret Ts E A) {C : String} {T : u_T} {N ci index a : Nat} {fs : List Value} {v : Value} {ty : FieldType} {ws' : va_W} (hin : ∀ w ∈ u_ws C T N, w ∈ Ts) (ty0 : Nat → FieldType) (hty : ∀ k, k < N → parseFieldDescriptor (T k).2.2.1 = some (ty0 k)) (hnm : ∀ a, a < N → ∀ b, b < N → a ≠ b → (T a).2.1 ≠ (T b).2.1) (hin2 : meth.name = "<init>") (q0 k : Nat) (hk : k < N) (hc : vwCl[ci]? = some (C, T, N)) (hlk : Cond.fieldLink own index (T k).1 (T k).2.1 (T k).2.2.1 ∈ Ts) (he : ws[q0]? = some (a, .inr (ci, fs))) (hfin : (T k).2.2.2 = true) (hdecl : (T k).1 = own) (hdt : ty0 k = ty) (hn : narrow ty v = v) (hfit : fits ty v = true) (hl0 : k < fs.length) (hws : ws.set q0 (a, .inr (ci, fs.set k v)) = ws') (hd : decode cc pc = .ok (.putfield index, 3)) (kk : gG p l e R s m args below meth c nL E A Q cells slots (ws') (lv) (st) (pc + 3)) : gG p l e R s m args below meth c nL E A Q cells slots (ws) (lv) (v :: .ref a :: st) (pc) := fun H locs ls hP hD hS hl => va_putF cx.1 cx.2.1 cx.2.2.2.2.1 hin ty0 hty hnm cx.2.2.2.1 cx.2.2.2.2.2.1.1 hP hD hS q0 he hc k hk (cx.2.2.2.2.1 _ hlk) (fun _ h9 => h9) hfin hin2 hdecl (by rw [← hdt]; exact hty k hk) hn hfit hl0 hd (fun H locs hP hD hS => by rw [hws] at hP hD; exact kk H locs ls hP hD hS hl)
theorem g_gets (cx : gC p s m args meth c cc nL own ret Ts E A) {n : String} {N t index : Nat} {f : Nat → Int32} (hZ : gS1 n N f t A s s.heap) (hlk : Cond.fieldLink own index "FlakePainter" n "[I" ∈ Ts) (hd : decode cc pc = .ok (.getstatic index, 3)) (kk : gG p l e R s m args below meth c nL E A Q cells slots (ws) (lv) (.ref t :: st) (pc + 3)) : gG p l e R s m args below meth c nL E A Q cells slots (ws) (lv) (st) (pc) := fun H locs ls hP hD hS hl => va_gets cx.1 cx.2.1 hZ.1 hS cx.2.2.2.1 (cx.2.2.2.2.1 _ hlk) (fun _ h9 => h9) hd (kk H locs ls hP hD hS hl)
theorem g_getsN (cx : gC p s m args meth c cc nL own ret Ts E A) {n : String} {N t index : Nat} {f : Nat → Int32} (hZ : gS1 n N f t A s s.heap) (hlk : va_Nw (.fieldLinkNest own index "FlakePainter" n "[I" "FlakePainter") s) (hd : decode cc pc = .ok (.getstatic index, 3)) (kk : gG p l e R s m args below meth c nL E A Q cells slots (ws) (lv) (.ref t :: st) (pc + 3)) : gG p l e R s m args below meth c nL E A Q cells slots (ws) (lv) (st) (pc) := fun H locs ls hP hD hS hl => va_getsN cx.1 cx.2.1 hZ.1 hS cx.2.2.2.1 (va_Nw.use rfl hlk) (fun _ h9 => h9) hd (kk H locs ls hP hD hS hl)
theorem g_ti (cx : gC p s m args meth c cc nL own ret Ts E A) {n : String} {N t : Nat} {f : Nat → Int32} {i v : Int32} (hZ : gS1 n N f t A s s.heap) (hin : vp_in i N) (hv : f i.toNatClampNeg = v) (hd : decode cc pc = .ok (.iaload, 1)) (kk : gG p l e R s m args below meth c nL E A Q cells slots (ws) (lv) (.int v :: st) (pc + 1)) : gG p l e R s m args below meth c nL E A Q cells slots (ws) (lv) (.int i :: .ref t :: st) (pc) := fun H locs ls hP hD hS hl => va_ti cx.1 cx.2.1 hZ.2 hS hin (congrArg Value.int hv) hd (kk H locs ls hP hD hS hl)
theorem g_iald (cx : gC p s m args meth c cc nL own ret Ts E A) {cA : ClassId} {n a : Nat} {f : Nat → Int32} {i v : Int32} (q0 : Nat) (he : ws[q0]? = some (a, .inl (cA, n, .inl f))) (hcA : cA = E.2.1 0) (hin : vp_in i n) (hv : f i.toNatClampNeg = v) (hd : decode cc pc = .ok (.iaload, 1)) (kk : gG p l e R s m args below meth c nL E A Q cells slots (ws) (lv) (.int v :: st) (pc + 1)) : gG p l e R s m args below meth c nL E A Q cells slots (ws) (lv) (.int i :: .ref a :: st) (pc) := fun H locs ls hP hD hS hl => va_iald cx.1 cx.2.1 cx.2.2.2.2.2.1.1 hP q0 0 he (by rw [hcA]; rfl) hin hd (by rw [hv]; exact kk H locs ls hP hD hS hl)
theorem g_cald (cx : gC p s m args meth c cc nL own ret Ts E A) {cA : ClassId} {n a : Nat} {f : Nat → Int32} {i v : Int32} (q0 : Nat) (he : ws[q0]? = some (a, .inl (cA, n, .inl f))) (hcA : cA = E.2.1 1) (hin : vp_in i n) (hv : f i.toNatClampNeg = v) (hd : decode cc pc = .ok (.caload, 1)) (kk : gG p l e R s m args below meth c nL E A Q cells slots (ws) (lv) (.int v :: st) (pc + 1)) : gG p l e R s m args below meth c nL E A Q cells slots (ws) (lv) (.int i :: .ref a :: st) (pc) := fun H locs ls hP hD hS hl => va_cald cx.1 cx.2.1 cx.2.2.2.2.2.1.1 hP q0 1 he (by rw [hcA]; rfl) hin hd (by rw [hv]; exact kk H locs ls hP hD hS hl)
theorem g_zald (cx : gC p s m args meth c cc nL own ret Ts E A) {cA : ClassId} {n a : Nat} {f : Nat → Int32} {i v : Int32} (q0 : Nat) (he : ws[q0]? = some (a, .inl (cA, n, .inl f))) (hcA : cA = E.2.1 2) (hin : vp_in i n) (hv : f i.toNatClampNeg = v) (hd : decode cc pc = .ok (.baload, 1)) (kk : gG p l e R s m args below meth c nL E A Q cells slots (ws) (lv) (.int v :: st) (pc + 1)) : gG p l e R s m args below meth c nL E A Q cells slots (ws) (lv) (.int i :: .ref a :: st) (pc) := fun H locs ls hP hD hS hl => va_zald cx.1 cx.2.1 cx.2.2.2.2.2.1.1 hP q0 2 he (by rw [hcA]; rfl) hin hd (by rw [hv]; exact kk H locs ls hP hD hS hl)
theorem g_lald (cx : gC p s m args meth c cc nL own ret Ts E A) {cA : ClassId} {n a : Nat} {f : Nat → Int64} {i : Int32} {v : Int64} (q0 : Nat) (he : ws[q0]? = some (a, .inl (cA, n, .inr (.inl f)))) (hcA : cA = E.2.1 4) (hin : vp_in i n) (hv : f i.toNatClampNeg = v) (hd : decode cc pc = .ok (.laload, 1)) (kk : gG p l e R s m args below meth c nL E A Q cells slots (ws) (lv) (.long v :: st) (pc + 1)) : gG p l e R s m args below meth c nL E A Q cells slots (ws) (lv) (.int i :: .ref a :: st) (pc) := fun H locs ls hP hD hS hl => va_lald cx.1 cx.2.1 cx.2.2.2.2.2.1.1 hP q0 4 he (by rw [hcA]; rfl) hin hd (by rw [hv]; exact kk H locs ls hP hD hS hl)
theorem g_aald (cx : gC p s m args meth c cc nL own ret Ts E A) {cA : ClassId} {n a : Nat} {f : Nat → Option Nat} {i : Int32} {b : Nat} (q0 : Nat) (he : ws[q0]? = some (a, .inl (cA, n, .inr (.inr (.inr (.inr f)))))) (hcA : cA = E.2.1 3) (hin : vp_in i n) (hv : f i.toNatClampNeg = some b) (hd : decode cc pc = .ok (.aaload, 1)) (kk : gG p l e R s m args below meth c nL E A Q cells slots (ws) (lv) (.ref b :: st) (pc + 1)) : gG p l e R s m args below meth c nL E A Q cells slots (ws) (lv) (.int i :: .ref a :: st) (pc) := fun H locs ls hP hD hS hl => va_aldq (C := "FlakePainter$Picture") cx.1 cx.2.1 cx.2.2.2.2.2.1.1 hP q0 3 he (by rw [hcA]; rfl) hin hd (by rw [hv]; exact kk H locs ls hP hD hS hl)
theorem g_iast (cx : gC p s m args meth c cc nL own ret Ts E A) {cA : ClassId} {n a : Nat} {f : Nat → Int32} {i x : Int32} {ws' : va_W} (q0 : Nat) (he : ws[q0]? = some (a, .inl (cA, n, .inl f))) (hcA : cA = E.2.1 0) (hin : vp_in i n) (hws : ws.set q0 (a, .inl (cA, n, .inl (upd f i.toNatClampNeg x))) = ws') (hd : decode cc pc = .ok (.iastore, 1)) (kk : gG p l e R s m args below meth c nL E A Q cells slots (ws') (lv) (st) (pc + 1)) : gG p l e R s m args below meth c nL E A Q cells slots (ws) (lv) (.int x :: .int i :: .ref a :: st) (pc) := fun H locs ls hP hD hS hl => va_iast cx.1 cx.2.1 cx.2.2.2.2.2.1.1 hP hD hS q0 0 he (by rw [hcA]; rfl) hin hd (fun H locs hP hD hS => by rw [hws] at hP hD; exact kk H locs ls hP hD hS hl)
theorem g_last (cx : gC p s m args meth c cc nL own ret Ts E A) {cA : ClassId} {n a : Nat} {f : Nat → Int64} {i : Int32} {x : Int64} {ws' : va_W} (q0 : Nat) (he : ws[q0]? = some (a, .inl (cA, n, .inr (.inl f)))) (hcA : cA = E.2.1 4) (hin : vp_in i n) (hws : ws.set q0 (a, .inl (cA, n, .inr (.inl (vp_updL f i.toNatClampNeg x)))) = ws') (hd : decode cc pc = .ok (.lastore, 1)) (kk : gG p l e R s m args below meth c nL E A Q cells slots (ws') (lv) (st) (pc + 1)) : gG p l e R s m args below meth c nL E A Q cells slots (ws) (lv) (.long x :: .int i :: .ref a :: st) (pc) := fun H locs ls hP hD hS hl => va_last cx.1 cx.2.1 cx.2.2.2.2.2.1.1 hP hD hS q0 4 he (by rw [hcA]; rfl) hin hd (fun H locs hP hD hS => by rw [hws] at hP hD; exact kk H locs ls hP hD hS hl)
theorem g_aast (cx : gC p s m args meth c cc nL own ret Ts E A) {cA : ClassId} {n a v ci : Nat} {vs : List Value} {f : Nat → Option Nat} {i : Int32} {ws' : va_W} (q0 qk : Nat) (he : ws[q0]? = some (a, .inl (cA, n, .inr (.inr (.inr (.inr f)))))) (hcA : cA = E.2.1 3) (hv : ws[qk]? = some (v, .inr (3, vs))) (hin : vp_in i n) (hws : ws.set q0 (a, .inl (cA, n, .inr (.inr (.inr (.inr (va_up f i.toNatClampNeg (some v))))))) = ws') (hd : decode cc pc = .ok (.aastore, 1)) (kk : gG p l e R s m args below meth c nL E A Q cells slots (ws') (lv) (st) (pc + 1)) : gG p l e R s m args below meth c nL E A Q cells slots (ws) (lv) (.ref v :: .int i :: .ref a :: st) (pc) := fun H locs ls hP hD hS hl => va_astq (r := (RX3, TX3, 4)) cx.1 cx.2.1 cx.2.2.2.2.2.1.1 hP hD hS q0 3 qk 3 he (by rw [hcA]; rfl) hv rfl hin hd (fun H locs hP hD hS => by rw [hws] at hP hD; exact kk H locs ls hP hD hS hl)
theorem g_alen (cx : gC p s m args meth c cc nL own ret Ts E A) {cA : ClassId} {a : Nat} {x : vp_A} {ty : FieldType} {v : Int32} (q0 t0 : Nat) (he : ws[q0]? = some (a, .inl (cA, x))) (ht : (gTys E)[t0]? = some (cA, ty)) (hv : Int32.ofNat x.1 = v) (hd : decode cc pc = .ok (.arraylength, 1)) (kk : gG p l e R s m args below meth c nL E A Q cells slots (ws) (lv) (.int v :: st) (pc + 1)) : gG p l e R s m args below meth c nL E A Q cells slots (ws) (lv) (.ref a :: st) (pc) := fun H locs ls hP hD hS hl => va_alen cx.1 cx.2.1 cx.2.2.2.2.2.1.1 hP q0 t0 he ht hv hd (kk H locs ls hP hD hS hl)
theorem g_dup2 (cx : gC p s m args meth c cc nL own ret Ts E A) {va vb : Value} (hd : decode cc pc = .ok (.dup2, 1)) (hva : va.category = 1) (hvb : vb.category = 1) (kk : gG p l e R s m args below meth c nL E A Q cells slots (ws) (lv) (va :: vb :: va :: vb :: st) (pc + 1)) : gG p l e R s m args below meth c nL E A Q cells slots (ws) (lv) (va :: vb :: st) (pc) := fun H locs ls hP hD hS hl => lv_dup2_11 cx.1 cx.2.1 hd hva hvb (kk H locs ls hP hD hS hl)
theorem g_lcmp (cx : gC p s m args meth c cc nL own ret Ts E A) {x y : Int64} (hd : decode cc pc = .ok (.lcmp, 1)) (kk : gG p l e R s m args below meth c nL E A Q cells slots (ws) (lv) (.int (lg_cmp x y) :: st) (pc + 1)) : gG p l e R s m args below meth c nL E A Q cells slots (ws) (lv) (.long y :: .long x :: st) (pc) := fun H locs ls hP hD hS hl => W.lcmp cx.1 cx.2.1 hd (kk H locs ls hP hD hS hl)
theorem g_dcmp (cx : gC p s m args meth c cc nL own ret Ts E A) {x y : UInt64} {op : CmpOp} (hd : decode cc pc = .ok (.dcmp op, 1)) (kk : gG p l e R s m args below meth c nL E A Q cells slots (ws) (lv) (.int (Op.cmpValue (FP.dcmp x y) op) :: st) (pc + 1)) : gG p l e R s m args below meth c nL E A Q cells slots (ws) (lv) (.double y :: .double x :: st) (pc) := fun H locs ls hP hD hS hl => lv_dcmp cx.1 cx.2.1 hd (kk H locs ls hP hD hS hl)
theorem g_mmax (cx : gC p s m args meth c cc nL own ret Ts E A) {index : Nat} {x y : Int32} (hl1 : Cond.methodLink own index Lib.Math.max.name ∈ Ts) (hl2 : Cond.static Lib.Math.max.name ∈ Ts) (hl3 : Cond.initialized "java/lang/Math" ∈ Ts) (hl4 : Cond.code Lib.Math.max.name Lib.Math.max.code 2 (some .int) ∈ Ts) (hf : 1 ≤ R.frames) (hlo : (st.map fun v => v.category).sum + 13 ≤ R.locals) (hcs : cells ≤ R.cells ∧ slots ≤ R.slots) (hd : decode cc pc = .ok (.invokestatic index, 3)) (kk : gG p l e R s m args below meth c nL E A Q cells slots (ws) (lv) (.int (if x < y then y else x) :: st) (pc + 3)) : gG p l e R s m args below meth c nL E A Q cells slots (ws) (lv) (.int y :: .int x :: st) (pc) := fun H locs ls hP hD hS hl => va_mmax cx.1 cx.2.1 (cx.2.2.1.trans hl.1.symm) cx.2.2.2.1 (cx.2.2.2.2.1 _ hl1) (cx.2.2.2.2.1 _ hl2) (cx.2.2.2.2.1 _ hl3) (cx.2.2.2.2.1 _ hl4) hf hlo hcs.1 hcs.2 hd (kk H locs ls hP hD hS hl)
theorem g_mmin (cx : gC p s m args meth c cc nL own ret Ts E A) {index : Nat} {x y : Int32} (hl1 : Cond.methodLink own index Lib.Math.min.name ∈ Ts) (hl2 : Cond.static Lib.Math.min.name ∈ Ts) (hl3 : Cond.initialized "java/lang/Math" ∈ Ts) (hl4 : Cond.code Lib.Math.min.name Lib.Math.min.code 2 (some .int) ∈ Ts) (hf : 1 ≤ R.frames) (hlo : (st.map fun v => v.category).sum + 13 ≤ R.locals) (hcs : cells ≤ R.cells ∧ slots ≤ R.slots) (hd : decode cc pc = .ok (.invokestatic index, 3)) (kk : gG p l e R s m args below meth c nL E A Q cells slots (ws) (lv) (.int (if y < x then y else x) :: st) (pc + 3)) : gG p l e R s m args below meth c nL E A Q cells slots (ws) (lv) (.int y :: .int x :: st) (pc) := fun H locs ls hP hD hS hl => va_mmin cx.1 cx.2.1 (cx.2.2.1.trans hl.1.symm) cx.2.2.2.1 (cx.2.2.2.2.1 _ hl1) (cx.2.2.2.2.1 _ hl2) (cx.2.2.2.2.1 _ hl3) (cx.2.2.2.2.1 _ hl4) hf hlo hcs.1 hcs.2 hd (kk H locs ls hP hD hS hl)
theorem g_mabs (cx : gC p s m args meth c cc nL own ret Ts E A) {index : Nat} {x : Int32} (hl1 : Cond.methodLink own index Lib.Math.abs.name ∈ Ts) (hl2 : Cond.static Lib.Math.abs.name ∈ Ts) (hl3 : Cond.initialized "java/lang/Math" ∈ Ts) (hl4 : Cond.code Lib.Math.abs.name Lib.Math.abs.code 1 (some .int) ∈ Ts) (hf : 1 ≤ R.frames) (hlo : (st.map fun v => v.category).sum + 13 ≤ R.locals) (hcs : cells ≤ R.cells ∧ slots ≤ R.slots) (hd : decode cc pc = .ok (.invokestatic index, 3)) (kk : gG p l e R s m args below meth c nL E A Q cells slots (ws) (lv) (.int (if 0 ≤ x then x else 0 - x) :: st) (pc + 3)) : gG p l e R s m args below meth c nL E A Q cells slots (ws) (lv) (.int x :: st) (pc) := fun H locs ls hP hD hS hl => va_mabs cx.1 cx.2.1 (cx.2.2.1.trans hl.1.symm) cx.2.2.2.1 (cx.2.2.2.2.1 _ hl1) (cx.2.2.2.2.1 _ hl2) (cx.2.2.2.2.1 _ hl3) (cx.2.2.2.2.1 _ hl4) hf hlo hcs.1 hcs.2 hd (kk H locs ls hP hD hS hl)
theorem g_copyi (cx : gC p s m args meth c cc nL own ret Ts E A) {index a a0 n0 n1 : Nat} {c0 c1 : ClassId} {f g g2 : Nat → Int32} {sp dp n : Int32} {ws' : va_W} (hl1 : Cond.methodLink own index arraycopyName ∈ Ts) (hl2 : Cond.native arraycopyName ∈ Ts) (hl3 : Cond.static arraycopyName ∈ Ts) (hl4 : Cond.initialized "java/lang/System" ∈ Ts) (q0 q1 : Nat) (ha0 : ws[q0]? = some (a0, .inl (c0, n0, .inl f))) (ha1 : ws[q1]? = some (a, .inl (c1, n1, .inl g))) (hc0 : c0 = E.2.1 0) (hc1 : c1 = E.2.1 0) (h1 : ¬ sp < 0) (h2 : ¬ dp < 0) (h3 : ¬ n < 0) (h4 : sp.toNatClampNeg + n.toNatClampNeg ≤ n0) (h5 : dp.toNatClampNeg + n.toNatClampNeg ≤ n1)
  (hf : 1 ≤ R.frames) (hlo : (st.map fun v => v.category).sum + (nativeFrameWords "java/lang/System" "arraycopy" 5 + 11) ≤ R.locals) (hd : decode cc pc = .ok (.invokestatic index, 3)) (hg : ∀ j, j < n1 → va_cpy f g sp.toNatClampNeg dp.toNatClampNeg n.toNatClampNeg j = g2 j) (hws : ws.set q1 (a, .inl (c1, n1, .inl g2)) = ws') (kk : gG p l e R s m args below meth c nL E A Q cells slots (ws') (lv) (st) (pc + 3)) : gG p l e R s m args below meth c nL E A Q cells slots (ws) (lv) (.int n :: .int dp :: .ref a :: .int sp :: .ref a0 :: st) (pc) := fun H locs ls hP hD hS hl =>
  va_copyi (ty := .int) cx.1 cx.2.1 (cx.2.2.1.trans hl.1.symm) cx.2.2.2.1 (cx.2.2.2.2.1 _ hl1) (cx.2.2.2.2.1 _ hl2) (cx.2.2.2.2.1 _ hl3) (cx.2.2.2.2.1 _ hl4) cx.2.2.2.2.2.1.1 hP hD hS q0 q1 0 0 ha0 ha1 (by rw [hc0]; rfl) (by rw [hc1]; rfl) rfl h1 h2 h3 h4 h5 (fun _ _ => rfl) hf hlo hd (fun H locs hP hD hS => by
    have he : vp_cell c1 (n1, .inl (va_cpy f g sp.toNatClampNeg dp.toNatClampNeg n.toNatClampNeg)) = vp_cell c1 (n1, .inl g2) := gcell_eq hg
    exact kk H locs ls (hws ▸ gP_cell hP he) (hws ▸ gD_fst hD (by rw [List.map_set, List.map_set])) hS hl)
theorem g_conv {ws' : va_W} {lv' : List (Nat × Value)} {st' : List Value} (kk : gG p l e R s m args below meth c nL E A Q cells slots (ws') (lv') (st') (pc)) (h1 : ws = ws') (h2 : lv = lv') (h3 : st = st') : gG p l e R s m args below meth c nL E A Q cells slots (ws) (lv) (st) (pc) := by
  rw [h1, h2, h3]; exact kk
theorem g_lv (ks : List Nat) {lv' : List (Nat × Value)} (h : lv_pick lv ks = lv') (kk : gG p l e R s m args below meth c nL E A Q cells slots (ws) (lv') (st) (pc)) : gG p l e R s m args below meth c nL E A Q cells slots (ws) (lv) (st) (pc) := fun H locs ls hP hD hS hl => kk H locs ls hP hD hS (lv_sub hl ks h)
theorem g_top {x y : Int32} (h : x = y) (kk : gG p l e R s m args below meth c nL E A Q cells slots (ws) (lv) (.int y :: st) (pc)) : gG p l e R s m args below meth c nL E A Q cells slots (ws) (lv) (.int x :: st) (pc) := by rw [h]; exact kk
theorem g_ws {ws' : va_W} (h : ws = ws') (kk : gG p l e R s m args below meth c nL E A Q cells slots (ws') (lv) (st) (pc)) : gG p l e R s m args below meth c nL E A Q cells slots (ws) (lv) (st) (pc) := by rw [h]; exact kk
/-- cells may be said in other words -/
theorem g_wsP {ws' : va_W} (hf : ws'.map Prod.fst = ws.map Prod.fst) (h : ∀ H, va_P E.1 vwCl ws H → va_P E.1 vwCl ws' H) (kk : gG p l e R s m args below meth c nL E A Q cells slots (ws') (lv) (st) (pc)) : gG p l e R s m args below meth c nL E A Q cells slots (ws) (lv) (st) (pc) := fun H locs ls hP hD hS hl => kk H locs ls (h H hP) (gD_fst hD hf) hS hl
theorem g_iret (cx : gC p s m args meth c cc nL own (some .int) Ts E A) {v : Int32} (hd : decode cc pc = .ok (.ireturn, 1)) : gG p l e R s m args below meth c nL E A (MQ below (gQ E ws (some (.int v)) A) args s cells slots A) cells slots ws lv [.int v] pc := fun H locs ls hP hD hS hl => W.iret cx.1 cx.2.1 cx.2.2.2.2.2.2.2.1 (fun t ht hW => ⟨rfl, by rw [ht]; exact hP, hS.F ht⟩) hS.2.2 hd cx.2.2.2.2.2.2.2.2
theorem g_lret (cx : gC p s m args meth c cc nL own (some .long) Ts E A) {v : Int64} (hd : decode cc pc = .ok (.lreturn, 1)) : gG p l e R s m args below meth c nL E A (MQ below (gQ E ws (some (.long v)) A) args s cells slots A) cells slots ws lv [.long v] pc := fun H locs ls hP hD hS hl => W.lret cx.1 cx.2.1 cx.2.2.2.2.2.2.2.1 (fun t ht hW => ⟨rfl, by rw [ht]; exact hP, hS.F ht⟩) hS.2.2 hd cx.2.2.2.2.2.2.2.2
theorem g_dret (cx : gC p s m args meth c cc nL own (some .double) Ts E A) {v : UInt64} (hd : decode cc pc = .ok (.dreturn, 1)) : gG p l e R s m args below meth c nL E A (MQ below (gQ E ws (some (.double v)) A) args s cells slots A) cells slots ws lv [.double v] pc := fun H locs ls hP hD hS hl => W.dret cx.1 cx.2.1 cx.2.2.2.2.2.2.2.1 (fun t ht hW => ⟨rfl, by rw [ht]; exact hP, hS.F ht⟩) hS.2.2 hd cx.2.2.2.2.2.2.2.2
theorem g_zret {ty : FieldType} (cx : gC p s m args meth c cc nL own (some ty) Ts E A) {v : Int32} (hn : narrow ty (.int v) = .int v) (hd : decode cc pc = .ok (.ireturn, 1)) : gG p l e R s m args below meth c nL E A (MQ below (gQ E ws (some (.int v)) A) args s cells slots A) cells slots ws lv [.int v] pc := fun H locs ls hP hD hS hl => W.zret cx.1 cx.2.1 cx.2.2.2.2.2.2.2.1 hn (fun t ht hW => ⟨rfl, by rw [ht]; exact hP, hS.F ht⟩) hS.2.2 hd cx.2.2.2.2.2.2.2.2
theorem g_vret (cx : gC p s m args meth c cc nL own none Ts E A) (hd : decode cc pc = .ok (.return_, 1)) : gG p l e R s m args below meth c nL E A (MQ below (gQ E ws none A) args s cells slots A) cells slots ws lv [] pc := fun H locs ls hP hD hS hl => W.vret cx.1 cx.2.1 cx.2.2.2.2.2.2.2.1 (fun t ht hW => ⟨rfl, by rw [ht]; exact hP, hS.F ht⟩) hS.2.2 hd cx.2.2.2.2.2.2.2.2
theorem g_iretE (cx : gC p s m args meth c cc nL own (some .int) Ts E A) {v v2 : Int32} {cq : va_W} (hd : decode cc pc = .ok (.ireturn, 1)) (hws : ws = cq) (hv : v = v2) : gG p l e R s m args below meth c nL E A (MQ below (gQ E cq (some (.int v2)) A) args s cells slots A) cells slots ws lv [.int v] pc := by subst hws; subst hv; exact g_iret cx hd
theorem g_lretE (cx : gC p s m args meth c cc nL own (some .long) Ts E A) {v v2 : Int64} {cq : va_W} (hd : decode cc pc = .ok (.lreturn, 1)) (hws : ws = cq) (hv : v = v2) : gG p l e R s m args below meth c nL E A (MQ below (gQ E cq (some (.long v2)) A) args s cells slots A) cells slots ws lv [.long v] pc := by subst hws; subst hv; exact g_lret cx hd
theorem g_dretE (cx : gC p s m args meth c cc nL own (some .double) Ts E A) {v v2 : UInt64} {cq : va_W} (hd : decode cc pc = .ok (.dreturn, 1)) (hws : ws = cq) (hv : v = v2) : gG p l e R s m args below meth c nL E A (MQ below (gQ E cq (some (.double v2)) A) args s cells slots A) cells slots ws lv [.double v] pc := by subst hws; subst hv; exact g_dret cx hd
theorem g_zretE {ty : FieldType} (cx : gC p s m args meth c cc nL own (some ty) Ts E A) {v v2 : Int32} {cq : va_W} (hn : narrow ty (.int v) = .int v) (hd : decode cc pc = .ok (.ireturn, 1)) (hws : ws = cq) (hv : v = v2) : gG p l e R s m args below meth c nL E A (MQ below (gQ E cq (some (.int v2)) A) args s cells slots A) cells slots ws lv [.int v] pc := by subst hws; subst hv; exact g_zret cx hn hd
theorem g_vretE (cx : gC p s m args meth c cc nL own none Ts E A) {cq : va_W} (hd : decode cc pc = .ok (.return_, 1)) (hws : ws = cq) : gG p l e R s m args below meth c nL E A (MQ below (gQ E cq none A) args s cells slots A) cells slots ws lv [] pc := by subst hws; exact g_vret cx hd
end GR
/-- a contract out of a walk -/
theorem gM.ofG {l : Launch} {y : MethodName} {ws ws' : List Cond} {rm : Room} {E : gEnv} {av : List Value} {cp cq : va_W} {rv : Option Value} {cc : ByteArray} {nL : Nat} {ret : Option FieldType} {own : String} (lv : List (Nat × Value)) (hy : plainName y.cls = true) (hw : ws = Cond.code y cc nL ret :: ws') (hcls : y.cls = own) (hnl : (lg_sl av).length ≤ nL) (hlv : lv_args 0 av = lv) (hcq : cq.map Prod.fst = cp.map Prod.fst)
    (body : ∀ (p : Program) (e : Env) (s : State) (m : MethodId) (below : List Frame) (meth : Method) (c : Code) (A : Nat → Prop), gC p s m av.toArray meth c cc nL own ret ws E A → gG p l e rm s m av.toArray below meth c nL E A (MQ below (gQ E cq rv A) av.toArray s 0 0 A) 0 0 cp lv [] 0) : gM l y ws rm E av cp cq rv := by
  refine ⟨hcq, fun sz => ?_⟩
  refine Met.ofW (cc := cc) (maxL := nL) (ret := ret) hy hw ?_
  intro p e s m args below meth c s₁ B hml hv
  obtain ⟨rfl, hsz, hP, hD0, hE⟩ := hv
  subst hsz
  have hts := atoms_spec (ws := ws) B.pre
  have hown : s.vm.findClass own = some m.cls := by rw [← hcls]; exact findClass_of_methodNamed B.named
  have hl := lv_entry av (n := nL) hnl
  rw [lg_entry_eq]
  rw [hlv] at hl
  exact body p e s m below meth c (va_A cp s.heap.size) ⟨B.exec, B.bytes, hml, hown, hts, hE, fun q h => Or.inr h, B.returns, B.notSynchronized⟩ s.heap [] _ hP hD0.self va_S.rf hl
section GCALL

variable {p : Program} {l : Launch} {e : Env} {R : Room} {s : State} {m : MethodId} {args : Array Value} {below : List Frame} {meth : Method} {c : Code} {cc : ByteArray} {nL : Nat} {own : String} {ret : Option FieldType} {Ts : List Cond} {E : gEnv} {A : Nat → Prop} {Q : State → Prop} {cells slots : Nat} {ws : va_W} {lv : List (Nat × Value)} {st : List Value} {pc : Nat}
theorem gE_call (cx : gC p s m args meth c cc nL own ret Ts E A) {cp : va_W} {H : Heap} {locs : List Loc} (hD : va_D A ws) (hS : va_S A s.heap H locs) (is : List Nat) (hC : is.map (fun i => ws[i]?) = cp.map some) {U : State} (hU : U.heap = H) (hW : s.WarmedH U.vm) : gE E (va_A cp H.size) U U.heap := by
  rw [hU]
  exact ((gE.kept cx.2.2.2.2.2.1 hS.2.1).narrow (va_free hD hS cx.2.2.2.2.2.2.1 is hC)).warm hW
theorem gD_call {cp : va_W} (hD : va_D A ws) (is : List Nat) (hn : va_nd is = true) (hC : is.map (fun i => ws[i]?) = cp.map some) : va_D (fun _ => True) cp := (hD.sub is hn hC).weaken (fun _ _ _ _ => trivial)
theorem gP_call {D : va_G} {cl : List vw_C} {cp : va_W} {H : Heap} (hP : va_P D cl ws H) (is : List Nat) (hC : is.map (fun i => ws[i]?) = cp.map some) : va_P D cl cp H := by
  intro k q hq
  have h1 : (is.map (fun i => ws[i]?))[k]? = some (some q) := by rw [hC, List.getElem?_map, hq]; rfl
  rw [List.getElem?_map] at h1
  cases hi : is[k]? with
  | none => rw [hi] at h1; cases h1
  | some i => rw [hi] at h1; exact hP i q (Option.some.inj h1)
/-- behind a call whose run is given -/
theorem g_run (cx : gC p s m args meth c cc nL own ret Ts E A) {cp cq : va_W} {rv : Option Value} {rest st0 : List Value} {a : Array Value} {H : Heap} {locs : List Loc} {ls : Array Slot} {ws' : va_W} (hcq : cq.map Prod.fst = cp.map Prod.fst) (is : List Nat) (hn : va_nd is = true) (hC : is.map (fun i => ws[i]?) = cp.map some) (hB : gput ws is cq = ws') (hP : va_P E.1 vwCl ws H) (hD : va_D A ws) (hS : va_S A s.heap H locs) (hl : lv_has ls nL lv)
    (hr : va_Run p l e R s m args below meth c H locs cells slots 0 0 (F0 m pc ls st0) rest (gQ E cq rv (va_A cp H.size) a) (va_A cp H.size)) (kk : gG p l e R s m args below meth c nL E A Q cells slots (ws') (lv) (rv.toList ++ rest) (pc + 3)) : W p l e R s m args below meth c H locs cells slots Q (F0 m pc ls st0) := by
  have hA : ∀ q, va_A cp H.size q → A q := va_free hD hS cx.2.2.2.2.2.2.1 is hC
  intro T hT X
  obtain ⟨v, st₀, t, T', L, h0, X', hL, e1, e2, ⟨hv, hp, hz, hk⟩, st⟩ := hr T hT X
  cases hv
  rw [h0] at hz hk
  rw [← e1] at hz hk hp
  obtain ⟨hP1, hD1⟩ := gput_spec hP hD is hC hcq hn hk hp
  rw [hB] at hP1 hD1
  obtain ⟨t2, a1, b1⟩ := kk T'.heap (locs ++ L) ls hP1 hD1
    ⟨Nat.le_trans hS.1 hz, fun q h1 h2 => by rw [hk q (Nat.lt_of_lt_of_le h1 hS.1) (fun z => h2 (hA q z))]; exact hS.2.1 q h1 h2, fun q hq => by
      rcases List.mem_append.mp hq with h | h
      · exact hS.2.2 q h
      · exact hA _ (hL q h)⟩ hl T' rfl X'
  exact ⟨t2, st t2 a1, b1⟩
theorem g_callV (cx : gC p s m args meth c cc nL own ret Ts E A) {y : MethodName} {wy wy' : List Cond} {rm : Room} {b index maxL n : Nat} {As rest : List Value} {cp cq ws' : va_W} {rv : Option Value} {bytes : ByteArray} {rt : Option FieldType} {C : String} {T : u_T} {N ci : Nat} {fs : List Value} (hM : gM l y wy rm E (.ref b :: As) cp cq rv) (hG : GoodIn Ts (wsV own index C y wy)) (hw : wy = Cond.code y bytes maxL rt :: wy') (hd0 : y.cls = C ∧ y.cls ≠ "java/lang/invoke/MethodHandle" ∧ y.cls ≠ "java/lang/invoke/VarHandle" ∧ (parseMethodDescriptor y.desc).map (fun d => d.parameters.length) = some n) (hrc : rm.cells = 0) (hrs : rm.slots = 0) (hR : rm.frames + 1 ≤ R.frames ∧ 8 + (maxL + 11) + rm.locals ≤ R.locals) (hf : cells ≤ R.cells ∧ slots ≤ R.slots)
    (is : List Nat) (q0 : Nat) (he : ws[q0]? = some (b, .inr (ci, fs))) (hc : vwCl[ci]? = some (C, T, N)) (hn : va_nd is = true) (hC : is.map (fun i => ws[i]?) = cp.map some) (hB : gput ws is cq = ws') (hlen : As.length = n) (hst : st = As.reverse ++ .ref b :: rest) (hcat : (rest.map fun v => v.category).sum ≤ 8) (hd : decode cc pc = .ok (.invokevirtual index, 3)) (kk : gG p l e R s m args below meth c nL E A Q cells slots (ws') (lv) (rv.toList ++ rest) (pc + 3)) : gG p l e R s m args below meth c nL E A Q cells slots (ws) (lv) (st) (pc) := by
  intro H locs ls hP hD hS hl
  refine g_run cx hM.1 is hn hC hB hP hD hS hl (va_runV (As := As) (rest := rest) ⟨cx.1, cx.2.1, cx.2.2.1, cx.2.2.2.1, cx.2.2.2.2.1⟩ (hM.2 H.size) (cwV n cx.2.2.2.2.1 hG hw hrc hrs hd0 hR) ⟨gPre.blind, va_recv (q := (C, T, N)) cx.2.2.2.2.2.1.1 hP hc he, fun U hU hW => ⟨rfl, by rw [hU], by rw [hU]; exact gP_call hP is hC, gD_call hD is hn hC, gE_call cx hD hS is hC hU hW⟩⟩ rfl hlen hl.1 hst (lv_room (m := m) (pc := pc) (ls := ls) (rest := st) hcat) hd ⟨by omega, by omega⟩) kk
theorem g_callS (cx : gC p s m args meth c cc nL own ret Ts E A) {y : MethodName} {wy wy' : List Cond} {rm : Room} {index maxL n : Nat} {As rest : List Value} {cp cq ws' : va_W} {rv : Option Value} {bytes : ByteArray} {rt : Option FieldType} (hM : gM l y wy rm E As cp cq rv) (hG : GoodIn Ts (va_wsS own index y wy)) (hw : wy = Cond.code y bytes maxL rt :: wy') (hd0 : y.cls ≠ "java/lang/invoke/MethodHandle" ∧ y.cls ≠ "java/lang/invoke/VarHandle" ∧ (parseMethodDescriptor y.desc).map (fun d => d.parameters.length) = some n) (hrc : rm.cells = 0) (hrs : rm.slots = 0) (hR : rm.frames + 1 ≤ R.frames ∧ 8 + (maxL + 11) + rm.locals ≤ R.locals) (hf : cells ≤ R.cells ∧ slots ≤ R.slots)
    (is : List Nat) (hn : va_nd is = true) (hC : is.map (fun i => ws[i]?) = cp.map some) (hB : gput ws is cq = ws') (hlen : As.length = n) (hst : st = As.reverse ++ rest) (hcat : (rest.map fun v => v.category).sum ≤ 8) (hd : decode cc pc = .ok (.invokestatic index, 3)) (kk : gG p l e R s m args below meth c nL E A Q cells slots (ws') (lv) (rv.toList ++ rest) (pc + 3)) : gG p l e R s m args below meth c nL E A Q cells slots (ws) (lv) (st) (pc) := by
  intro H locs ls hP hD hS hl
  refine g_run cx hM.1 is hn hC hB hP hD hS hl (va_runS (As := As) (rest := rest) ⟨cx.1, cx.2.1, cx.2.2.1, cx.2.2.2.1, cx.2.2.2.2.1⟩ (hM.2 H.size) (va_cwS n cx.2.2.2.2.1 hG hw hrc hrs hd0 hR) ⟨gPre.blind, fun U hU hW => ⟨rfl, by rw [hU], by rw [hU]; exact gP_call hP is hC, gD_call hD is hn hC, gE_call cx hD hS is hC hU hW⟩⟩ rfl hlen hl.1 hst (lv_room (m := m) (pc := pc) (ls := ls) (rest := st) hcat) hd ⟨by omega, by omega⟩) kk
end GCALL

theorem gn_eq {a b : Nat} (ha : a < 2 ^ 31) (hb : b < 2 ^ 31) (z : nI a = nI b) : a = b := (nI_eq ha hb).mp z
theorem gn_ne {a b : Nat} (z : ¬ nI a = nI b) : ¬ a = b := fun q => z (by rw [q])
theorem gn_le {a b : Nat} (ha : a < 2 ^ 31) (hb : b < 2 ^ 31) (z : nI a ≤ nI b) : a ≤ b := (nI_leI ha hb).mp z
theorem gn_nle {a b : Nat} (ha : a < 2 ^ 31) (hb : b < 2 ^ 31) (z : ¬ nI a ≤ nI b) : b < a := Nat.lt_of_not_le fun q => z ((nI_leI ha hb).mpr q)
theorem gn_lt {a b : Nat} (ha : a < 2 ^ 31) (hb : b < 2 ^ 31) (z : nI a < nI b) : a < b := (nI_ltI ha hb).mp z
theorem gn_nlt {a b : Nat} (ha : a < 2 ^ 31) (hb : b < 2 ^ 31) (z : ¬ nI a < nI b) : b ≤ a := Nat.le_of_not_lt fun q => z ((nI_ltI ha hb).mpr q)
theorem gn_eq0 {a : Nat} (ha : a < 2 ^ 31) (z : nI a = 0) : a = 0 := (nI_eq (b := 0) ha (by omega)).mp z
theorem gn_ne0 {a : Nat} (z : ¬ nI a = 0) : ¬ a = 0 := fun q => z (by rw [q]; rfl)
def isum (f : Nat → Int32) : Nat → Int32
  | 0 => 0
  | n + 1 => isum f n + f n

theorem kc_im1 : Int32.ofInt (-1) = (-1) := by decide +kernel
theorem kc_i0 : Int32.ofInt 0 = nI 0 := by decide +kernel
theorem kc_i1 : Int32.ofInt 1 = nI 1 := by decide +kernel
theorem kc_i2 : Int32.ofInt 2 = nI 2 := by decide +kernel
theorem kc_i3 : Int32.ofInt 3 = nI 3 := by decide +kernel
theorem kc_i4 : Int32.ofInt 4 = nI 4 := by decide +kernel
theorem kc_i5 : Int32.ofInt 5 = nI 5 := by decide +kernel
theorem kc_b6 : (Int8.ofInt 6).toInt32 = nI 6 := by decide +kernel
theorem kc_b7 : (Int8.ofInt 7).toInt32 = nI 7 := by decide +kernel
theorem kc_b8 : (Int8.ofInt 8).toInt32 = nI 8 := by decide +kernel
theorem kc_b9 : (Int8.ofInt 9).toInt32 = nI 9 := by decide +kernel
theorem kc_b10 : (Int8.ofInt 10).toInt32 = nI 10 := by decide +kernel
theorem kc_b15 : (Int8.ofInt 15).toInt32 = nI 15 := by decide +kernel
theorem kc_b16 : (Int8.ofInt 16).toInt32 = nI 16 := by decide +kernel
theorem kc_b31 : (Int8.ofInt 31).toInt32 = nI 31 := by decide +kernel
theorem kc_b32 : (Int8.ofInt 32).toInt32 = nI 32 := by decide +kernel
theorem kc_b33 : (Int8.ofInt 33).toInt32 = nI 33 := by decide +kernel
theorem kc_b48 : (Int8.ofInt 48).toInt32 = nI 48 := by decide +kernel
theorem kc_b57 : (Int8.ofInt 57).toInt32 = nI 57 := by decide +kernel
theorem kc_b59 : (Int8.ofInt 59).toInt32 = nI 59 := by decide +kernel
theorem kc_b61 : (Int8.ofInt 61).toInt32 = nI 61 := by decide +kernel
theorem kc_b63 : (Int8.ofInt 63).toInt32 = nI 63 := by decide +kernel
theorem kc_b64 : (Int8.ofInt 64).toInt32 = nI 64 := by decide +kernel
theorem kc_b65 : (Int8.ofInt 65).toInt32 = nI 65 := by decide +kernel
theorem kc_b66 : (Int8.ofInt 66).toInt32 = nI 66 := by decide +kernel
theorem kc_b67 : (Int8.ofInt 67).toInt32 = nI 67 := by decide +kernel
theorem kc_b80 : (Int8.ofInt 80).toInt32 = nI 80 := by decide +kernel
theorem kc_b103 : (Int8.ofInt 103).toInt32 = nI 103 := by decide +kernel
theorem kc_b105 : (Int8.ofInt 105).toInt32 = nI 105 := by decide +kernel
theorem kc_b114 : (Int8.ofInt 114).toInt32 = nI 114 := by decide +kernel
theorem kc_b116 : (Int8.ofInt 116).toInt32 = nI 116 := by decide +kernel
theorem kc_b119 : (Int8.ofInt 119).toInt32 = nI 119 := by decide +kernel
theorem kc_b123 : (Int8.ofInt 123).toInt32 = nI 123 := by decide +kernel
theorem kc_b126 : (Int8.ofInt 126).toInt32 = nI 126 := by decide +kernel
theorem kc_b127 : (Int8.ofInt 127).toInt32 = nI 127 := by decide +kernel
theorem kc_s128 : (Int16.ofInt 128).toInt32 = nI 128 := by decide +kernel
theorem kc_s134 : (Int16.ofInt 134).toInt32 = nI 134 := by decide +kernel
theorem kc_s255 : (Int16.ofInt 255).toInt32 = nI 255 := by decide +kernel
theorem kc_s335 : (Int16.ofInt 335).toInt32 = nI 335 := by decide +kernel
theorem kc_s402 : (Int16.ofInt 402).toInt32 = nI 402 := by decide +kernel
theorem kc_s999 : (Int16.ofInt 999).toInt32 = nI 999 := by decide +kernel
