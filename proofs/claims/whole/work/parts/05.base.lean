/-! what the walks use beside the layer -/
def gB (b : Bool) : Int32 := if b then 1 else 0
theorem gB_eq0 {b : Bool} (h : gB b = 0) : b = false := by cases b; rfl; exact absurd h (by decide)
theorem gB_ne0 {b : Bool} (h : ¬ gB b = 0) : b = true := by cases b; exact absurd rfl h; rfl
theorem gB_nar (b : Bool) : narrow .boolean (.int (gB b)) = .int (gB b) := by cases b <;> decide +kernel
theorem gB_fit (b : Bool) : fits .boolean (.int (gB b)) = true := by cases b <;> decide +kernel
theorem gB_t : nI 1 = gB true := by decide +kernel
theorem gB_f : nI 0 = gB false := by decide +kernel
theorem gB_of {b : Bool} (h : b = true) : nI 1 = gB b := by rw [h]; decide +kernel
theorem gB_off {b : Bool} (h : b = false) : nI 0 = gB b := by rw [h]; decide +kernel
theorem gn_inc1 (a : Nat) : nI a + Int32.ofInt 1 = nI (a + 1) := by
  rw [show Int32.ofInt 1 = nI 1 from by decide +kernel]
  exact nI_add a 1
theorem gn_inc5 (a : Nat) : nI a + Int32.ofInt 5 = nI (a + 5) := by
  rw [show Int32.ofInt 5 = nI 5 from by decide +kernel]
  exact nI_add a 5
def nF (j : Nat) : Nat := ([0, 1, 3, 7, 12] : List Nat).getD j 0
def nD (j : Nat) : Nat := ([0, 1, 0, 1, 1, 1, 0, 2, 1, 1, 0, 0] : List Nat).getD j 0
theorem zF_nat {j : Nat} (h : j < 5) : zF j = nI (nF j) := by
  revert h; revert j; decide +kernel
theorem zD_nat {j : Nat} (h : j < 12) : zD j = nI (nD j) := by
  revert h; revert j; decide +kernel
/-- a value of 0 to n is a number -/
theorem g_nat {x : Int32} {n : Nat} (hn : n < 2 ^ 31) (h1 : ¬ x < 0) (h2 : ¬ nI n ≤ x) : ∃ j : Nat, j < n ∧ x = nI j := by
  obtain ⟨j, hj, rfl⟩ := nI_of h1
  exact ⟨j, gn_nle (a := n) (b := j) hn hj h2, rfl⟩
theorem gi_lt {x : Int32} {b : Nat} (hb : b < 2 ^ 31) (z : x < nI b) : x.toInt < b := by rw [Int32.lt_iff_toInt_lt, nI_toInt hb] at z; exact z
theorem gi_nlt {x : Int32} {b : Nat} (hb : b < 2 ^ 31) (z : ¬ x < nI b) : (b : Int) ≤ x.toInt := by rw [Int32.lt_iff_toInt_lt, nI_toInt hb] at z; omega
theorem gi_le {x : Int32} {b : Nat} (hb : b < 2 ^ 31) (z : x ≤ nI b) : x.toInt ≤ b := by rw [Int32.le_iff_toInt_le, nI_toInt hb] at z; exact z
theorem gi_nle {x : Int32} {b : Nat} (hb : b < 2 ^ 31) (z : ¬ x ≤ nI b) : (b : Int) < x.toInt := by rw [Int32.le_iff_toInt_le, nI_toInt hb] at z; omega
theorem gj_lt {x : Int32} {b : Nat} (hb : b < 2 ^ 31) (z : nI b < x) : (b : Int) < x.toInt := by rw [Int32.lt_iff_toInt_lt, nI_toInt hb] at z; exact z
theorem gj_nlt {x : Int32} {b : Nat} (hb : b < 2 ^ 31) (z : ¬ nI b < x) : x.toInt ≤ b := by rw [Int32.lt_iff_toInt_lt, nI_toInt hb] at z; omega
theorem gj_le {x : Int32} {b : Nat} (hb : b < 2 ^ 31) (z : nI b ≤ x) : (b : Int) ≤ x.toInt := by rw [Int32.le_iff_toInt_le, nI_toInt hb] at z; exact z
theorem gj_nle {x : Int32} {b : Nat} (hb : b < 2 ^ 31) (z : ¬ nI b ≤ x) : x.toInt < b := by rw [Int32.le_iff_toInt_le, nI_toInt hb] at z; omega
theorem gi0_lt {x : Int32} (z : x < 0) : x.toInt < 0 := gi_lt (b := 0) (by omega) z
theorem gi0_nlt {x : Int32} (z : ¬ x < 0) : 0 ≤ x.toInt := gi_nlt (b := 0) (by omega) z
theorem gi0_le {x : Int32} (z : x ≤ 0) : x.toInt ≤ 0 := gi_le (b := 0) (by omega) z
theorem gi0_nle {x : Int32} (z : ¬ x ≤ 0) : 0 < x.toInt := gi_nle (b := 0) (by omega) z
theorem gj0_lt {x : Int32} (z : 0 < x) : 0 < x.toInt := gj_lt (b := 0) (by omega) z
theorem gj0_nlt {x : Int32} (z : ¬ 0 < x) : x.toInt ≤ 0 := gj_nlt (b := 0) (by omega) z
theorem gj0_le {x : Int32} (z : 0 ≤ x) : 0 ≤ x.toInt := gj_le (b := 0) (by omega) z
theorem gj0_nle {x : Int32} (z : ¬ 0 ≤ x) : x.toInt < 0 := gj_nle (b := 0) (by omega) z
/-- v is one of a to b -/
def bR (v : Int32) (a b : Nat) : Bool := decide ((a : Int) ≤ v.toInt ∧ v.toInt ≤ (b : Int))
theorem bR_t {v : Int32} {a b : Nat} : bR v a b = true ↔ (a : Int) ≤ v.toInt ∧ v.toInt ≤ (b : Int) := by unfold bR; exact decide_eq_true_iff
theorem bR_f {v : Int32} {a b : Nat} : bR v a b = false ↔ ¬ ((a : Int) ≤ v.toInt ∧ v.toInt ≤ (b : Int)) := by unfold bR; exact decide_eq_false_iff_not
theorem bR_nat {v : Int32} {a b : Nat} (h : bR v a b = true) : ∃ j : Nat, a ≤ j ∧ j ≤ b ∧ v = nI j := by
  obtain ⟨h1, h2⟩ := bR_t.mp h
  obtain ⟨j, hj, rfl⟩ := nI_of (x := v) (by rw [Int32.lt_iff_toInt_lt]; intro z; have z : v.toInt < 0 := z; omega)
  rw [nI_toInt hj] at h1 h2
  exact ⟨j, by omega, by omega, rfl⟩
section GSN
variable {p : Program} {l : Launch} {e : Env} {R : Room} {s : State} {m : MethodId} {args : Array Value} {below : List Frame} {meth : Method} {c : Code} {cc : ByteArray} {nL : Nat} {own : String} {ret : Option FieldType} {Ts : List Cond} {E : gEnv} {A : Nat → Prop} {Q : State → Prop} {cells slots : Nat} {ws : va_W} {lv : List (Nat × Value)} {st : List Value} {pc : Nat}
theorem g_callSN (cx : gC p s m args meth c cc nL own ret Ts E A) {y : MethodName} {wy wy' : List Cond} {rm : Room} {index maxL n : Nat} {host : String} {As rest : List Value} {cp cq ws' : va_W} {rv : Option Value} {bytes : ByteArray} {rt : Option FieldType} (hM : gM l y wy rm E As cp cq rv) (hG : GoodIn Ts wy) (hw : wy = Cond.code y bytes maxL rt :: wy') (hnest : va_Nw (.methodLinkNest own index y host) s) (hsi : Cond.static y ∈ Ts ∧ Cond.initialized y.cls ∈ Ts) (hd0 : y.cls ≠ "java/lang/invoke/MethodHandle" ∧ y.cls ≠ "java/lang/invoke/VarHandle" ∧ (parseMethodDescriptor y.desc).map (fun d => d.parameters.length) = some n) (hrc : rm.cells = 0) (hrs : rm.slots = 0) (hR : rm.frames + 1 ≤ R.frames ∧ 8 + (maxL + 11) + rm.locals ≤ R.locals) (hf : cells ≤ R.cells ∧ slots ≤ R.slots)
    (is : List Nat) (hn : va_nd is = true) (hC : is.map (fun i => ws[i]?) = cp.map some) (hB : gput ws is cq = ws') (hlen : As.length = n) (hst : st = As.reverse ++ rest) (hcat : (rest.map fun v => v.category).sum ≤ 8) (hd : decode cc pc = .ok (.invokestatic index, 3)) (kk : gG p l e R s m args below meth c nL E A Q cells slots (ws') (lv) (rv.toList ++ rest) (pc + 3)) : gG p l e R s m args below meth c nL E A Q cells slots (ws) (lv) (st) (pc) := by
  intro H locs ls hP hD hS hl
  refine g_run cx hM.1 is hn hC hB hP hD hS hl (va_runSN (As := As) (rest := rest) ⟨cx.1, cx.2.1, cx.2.2.1, cx.2.2.2.1, cx.2.2.2.2.1⟩ (hM.2 H.size) ⟨va_cnB n cx.2.2.2.2.1 hG hw hrc hrs hnest (cx.2.2.2.2.1 _ hsi.2) hd0 hR, cx.2.2.2.2.1 _ hsi.1, trivial⟩ ⟨gPre.blind, fun U hU hW => ⟨rfl, by rw [hU], by rw [hU]; exact gP_call hP is hC, gD_call hD is hn hC, gE_call cx hD hS is hC hU hW⟩⟩ rfl hlen hl.1 hst (lv_room (m := m) (pc := pc) (ls := ls) (rest := st) hcat) hd ⟨by omega, by omega⟩) kk
theorem g_aastE (cx : gC p s m args meth c cc nL own ret Ts E A) {cA : ClassId} {n a v : Nat} {f : Nat → Option Nat} {i : Int32} {ws' : va_W} (q0 : Nat) (he : ws[q0]? = some (a, .inl (cA, n, .inr (.inr (.inr (.inr f)))))) (hcA : cA = E.2.1 3) (hv : ∃ (qk : Nat) (vs : List Value), ws[qk]? = some (v, .inr (3, vs))) (hin : vp_in i n) (hws : ws.set q0 (a, .inl (cA, n, .inr (.inr (.inr (.inr (va_up f i.toNatClampNeg (some v))))))) = ws') (hd : decode cc pc = .ok (.aastore, 1)) (kk : gG p l e R s m args below meth c nL E A Q cells slots (ws') (lv) (st) (pc + 1)) : gG p l e R s m args below meth c nL E A Q cells slots (ws) (lv) (.ref v :: .int i :: .ref a :: st) (pc) := by
  obtain ⟨qk, vs, hv⟩ := hv
  exact g_aast (ci := 0) cx q0 qk he hcA hv hin hws hd kk
theorem g_cast (cx : gC p s m args meth c cc nL own ret Ts E A) {cA : ClassId} {n a : Nat} {f : Nat → Int32} {i x : Int32} {ws' : va_W} (q0 : Nat) (he : ws[q0]? = some (a, .inl (cA, n, .inl f))) (hcA : cA = E.2.1 1) (hin : vp_in i n) (hws : ws.set q0 (a, .inl (cA, n, .inl (upd f i.toNatClampNeg (vp_nar .char x)))) = ws') (hd : decode cc pc = .ok (.castore, 1)) (kk : gG p l e R s m args below meth c nL E A Q cells slots (ws') (lv) (st) (pc + 1)) : gG p l e R s m args below meth c nL E A Q cells slots (ws) (lv) (.int x :: .int i :: .ref a :: st) (pc) := fun H locs ls hP hD hS hl => va_cast cx.1 cx.2.1 cx.2.2.2.2.2.1.1 hP hD hS q0 1 he (by rw [hcA]; rfl) hin hd (fun H locs hP hD hS => by rw [hws] at hP hD; exact kk H locs ls hP hD hS hl)
end GSN
