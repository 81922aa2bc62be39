/-! many cells put in their places, told by a list of codes -/
def gix : List Nat → Nat → Option Nat
  | [], _ => none
  | i :: is, k => if i = k then some 0 else (gix is k).map (· + 1)
def gcodes (is : List Nat) (n : Nat) : List (Option Nat) := (List.range n).map (gix is)
def mgc : va_W → List (Option Nat) → va_W → va_W
  | w :: ws, none :: cs, cq => w :: mgc ws cs cq
  | w :: ws, some j :: cs, cq => cq.getD j w :: mgc ws cs cq
  | ws, [], _ => ws
  | [], _ :: _, _ => []
theorem gix_none {is : List Nat} {k : Nat} (h : k ∉ is) : gix is k = none := by
  induction is with
  | nil => rfl
  | cons i is ih =>
    unfold gix
    rw [if_neg (fun z => h (by rw [z]; exact List.mem_cons_self)), ih (fun z => h (List.mem_cons_of_mem _ z))]
    rfl
theorem gput_at : ∀ (is : List Nat) (cq ws : va_W) (k : Nat), va_nd is = true → is.length = cq.length → (gput ws is cq)[k]? = ws[k]?.map (fun w => ((gix is k).bind (fun j => cq[j]?)).getD w) := by
  intro is
  induction is with
  | nil =>
    intro cq ws k _ hl
    cases cq with
    | nil => show ws[k]? = _; cases ws[k]? <;> rfl
    | cons a b => simp at hl
  | cons i is ih =>
    intro cq ws k hn hl
    cases cq with
    | nil => simp at hl
    | cons a b =>
      have hni : i ∉ is ∧ va_nd is = true := by
        simp only [va_nd, Bool.and_eq_true] at hn
        exact ⟨by simpa using hn.1, hn.2⟩
      show (gput (ws.set i a) is b)[k]? = _
      rw [ih b (ws.set i a) k hni.2 (by simpa using hl)]
      by_cases hk : i = k
      · subst hk
        rw [gix_none hni.1]
        have h2 : gix (i :: is) i = some 0 := if_pos rfl
        rw [h2, List.getElem?_set]
        simp only [if_true]
        by_cases hlt : i < ws.length
        · rw [if_pos hlt, List.getElem?_eq_getElem hlt]; rfl
        · rw [if_neg hlt, List.getElem?_eq_none (Nat.not_lt.mp hlt)]; rfl
      · rw [List.getElem?_set_ne hk]
        have h2 : gix (i :: is) k = (gix is k).map (· + 1) := if_neg hk
        rw [h2]
        congr 1
        funext w
        cases gix is k <;> rfl
theorem mgc_at : ∀ (ws : va_W) (cs : List (Option Nat)) (cq : va_W) (k : Nat), (mgc ws cs cq)[k]? = ws[k]?.map (fun w => ((cs.getD k none).bind (fun j => cq[j]?)).getD w) := by
  intro ws
  induction ws with
  | nil =>
    intro cs cq k
    cases cs with
    | nil => rfl
    | cons c cs => rfl
  | cons w ws ih =>
    intro cs cq k
    cases cs with
    | nil =>
      show (w :: ws)[k]? = _
      cases h : (w :: ws)[k]? <;> rfl
    | cons c cs =>
      cases c with
      | none =>
        show (w :: mgc ws cs cq)[k]? = _
        cases k with
        | zero => rfl
        | succ k => exact ih cs cq k
      | some j =>
        show (cq.getD j w :: mgc ws cs cq)[k]? = _
        cases k with
        | zero =>
          show some (cq.getD j w) = some ((cq[j]?).getD w)
          rw [List.getD_eq_getElem?_getD]
        | succ k => exact ih cs cq k
theorem gput_mgc {ws cq ws' : va_W} {is : List Nat} (cs : List (Option Nat)) (n : Nat) (hn : va_nd is = true) (hl : is.length = cq.length) (hw : ws.length = n) (hc : gcodes is n = cs) (h : mgc ws cs cq = ws') : gput ws is cq = ws' := by
  rw [← h]
  apply List.ext_getElem?
  intro k
  rw [gput_at is cq ws k hn hl, mgc_at]
  by_cases hk : k < ws.length
  · have h1 : cs.getD k none = gix is k := by
      rw [← hc, List.getD_eq_getElem?_getD]
      unfold gcodes
      rw [List.getElem?_map, List.getElem?_range (by omega)]
      rfl
    rw [h1]
  · rw [List.getElem?_eq_none (Nat.not_lt.mp hk)]; rfl
