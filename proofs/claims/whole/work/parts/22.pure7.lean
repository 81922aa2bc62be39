/-! the pure words, seventh: the reference's text -/
section G7
/-- a number: fuel, place, value -/
def nlp (T : Nat → Nat) (n most : Nat) : Nat → Nat → Nat → Nat × Nat
  | 0, a, v => (v, a)
  | k + 1, a, v => if 0 < v ∧ a < n ∧ bR (nI (T a)) 48 57 = true ∧ 10 * v + T a - 48 ≤ most then nlp T n most k (a + 1) (10 * v + T a - 48) else (v, a)
theorem nlp_stop {T : Nat → Nat} {n most k a v : Nat} (h : ¬ (0 < v ∧ a < n ∧ bR (nI (T a)) 48 57 = true ∧ 10 * v + T a - 48 ≤ most)) : nlp T n most k a v = (v, a) := by
  cases k with
  | zero => rfl
  | succ k => exact if_neg h
theorem nlp_go {T : Nat → Nat} {n most a v : Nat} (h1 : 0 < v) (h2 : a < n) (h3 : bR (nI (T a)) 48 57 = true) (h4 : 10 * v + T a - 48 ≤ most) : nlp T n most (n - a) a v = nlp T n most (n - (a + 1)) (a + 1) (10 * v + T a - 48) := by
  rw [show n - a = n - (a + 1) + 1 from by omega]
  exact if_pos ⟨h1, h2, h3, h4⟩
theorem nlp_f (T : Nat → Nat) (n most : Nat) : ∀ k a v, a ≤ n → v ≤ most → a ≤ (nlp T n most k a v).2 ∧ (nlp T n most k a v).2 ≤ n ∧ (nlp T n most k a v).1 ≤ most := by
  intro k
  induction k with
  | zero => intro a v h1 h2; exact ⟨Nat.le_refl _, h1, h2⟩
  | succ k ih =>
    intro a v h1 h2
    unfold nlp
    split
    · rename_i h
      have := ih (a + 1) (10 * v + T a - 48) (by omega) h.2.2.2
      exact ⟨by omega, this.2⟩
    · exact ⟨Nat.le_refl _, h1, h2⟩
def nm1 (T : Nat → Nat) (n most a : Nat) : Nat × Nat := nlp T n most (n - (a + 1)) (a + 1) (T a - 48)
theorem nm1_f {T : Nat → Nat} {n most a : Nat} (h : a < n ∧ bR (nI (T a)) 48 57 = true) (hT : ∀ j, T j < 128) (hm : 9 ≤ most) : a + 1 ≤ (nm1 T n most a).2 ∧ (nm1 T n most a).2 ≤ n ∧ (nm1 T n most a).1 ≤ most := by
  have h2 := bR_N (t := T a) (by have := hT a; omega) h.2
  exact nlp_f T n most _ _ _ (by omega) (by omega)
/-- a command: does it go, the place behind it, its sort, its two numbers -/
def cmd (T : Nat → Nat) (n a : Nat) : Bool × Nat × Nat × Int32 × Int32 :=
  if a < n ∧ T a = 103 then
    if a + 1 < n ∧ bR (nI (T (a + 1))) 48 57 = true then
      if (nm1 T n 999 (a + 1)).2 < n ∧ T (nm1 T n 999 (a + 1)).2 = 61 then
        if (nm1 T n 999 (a + 1)).2 + 1 < n ∧ bR (nI (T ((nm1 T n 999 (a + 1)).2 + 1))) 48 57 = true then
          (true, (nm1 T n 999 ((nm1 T n 999 (a + 1)).2 + 1)).2, 103, nI (nm1 T n 999 (a + 1)).1, nI (nm1 T n 999 ((nm1 T n 999 (a + 1)).2 + 1)).1)
        else (false, (nm1 T n 999 (a + 1)).2 + 1, 103, nI (nm1 T n 999 (a + 1)).1, -1)
      else (false, (nm1 T n 999 (a + 1)).2, 103, nI (nm1 T n 999 (a + 1)).1, -1)
    else (false, a + 1, 103, -1, -1)
  else if a < n ∧ T a = 105 then (true, a + 1, 105, nI 0, nI 0)
  else if a < n ∧ T a = 116 then
    if a + 1 < n ∧ bR (nI (T (a + 1))) 48 57 = true then (true, (nm1 T n 999 (a + 1)).2, 116, nI (nm1 T n 999 (a + 1)).1, nI 0)
    else (false, a + 1, 116, -1, nI 0)
  else if a < n ∧ T a = 119 then (true, a + 1, 119, nI 0, nI 0)
  else if a < n ∧ T a = 114 then
    if a + 1 < n ∧ bR (nI (T (a + 1))) 48 57 = true then (true, (nm1 T n 9 (a + 1)).2, 114, nI (nm1 T n 9 (a + 1)).1, nI 0)
    else (false, a + 1, 114, -1, nI 0)
  else (false, a, 0, -1, nI 0)
def sorts (s : Nat) : Prop := s = 103 ∨ s = 105 ∨ s = 116 ∨ s = 119 ∨ s = 114
def cmP (n a : Nat) (q : Bool × Nat × Nat × Int32 × Int32) : Prop := (a ≤ q.2.1 ∧ q.2.1 ≤ n) ∧ (q.1 = true → a + 1 ≤ q.2.1 ∧ sorts q.2.2.1 ∧ ∃ v w : Nat, v ≤ 999 ∧ w ≤ 999 ∧ q.2.2.2.1 = nI v ∧ q.2.2.2.2 = nI w)
theorem cmP_t {n a b s v w : Nat} (h1 : a + 1 ≤ b) (h2 : b ≤ n) (hs : sorts s) (hv : v ≤ 999) (hw : w ≤ 999) : cmP n a (true, b, s, nI v, nI w) :=
  ⟨⟨(by omega : a ≤ b), h2⟩, fun _ => ⟨h1, hs, v, w, hv, hw, rfl, rfl⟩⟩
theorem cmP_f {n a b s : Nat} {v w : Int32} (h1 : a ≤ b) (h2 : b ≤ n) : cmP n a (false, b, s, v, w) := ⟨⟨h1, h2⟩, fun z => absurd z Bool.false_ne_true⟩
theorem cmd_f {T : Nat → Nat} {n a : Nat} (ha : a ≤ n) (hT : ∀ j, T j < 128) : cmP n a (cmd T n a) := by
  unfold cmd
  by_cases h1 : a < n ∧ T a = 103
  · rw [if_pos h1]
    by_cases h2 : a + 1 < n ∧ bR (nI (T (a + 1))) 48 57 = true
    · rw [if_pos h2]
      have f1 := nm1_f (most := 999) h2 hT (by omega)
      by_cases h3 : (nm1 T n 999 (a + 1)).2 < n ∧ T (nm1 T n 999 (a + 1)).2 = 61
      · rw [if_pos h3]
        by_cases h4 : (nm1 T n 999 (a + 1)).2 + 1 < n ∧ bR (nI (T ((nm1 T n 999 (a + 1)).2 + 1))) 48 57 = true
        · rw [if_pos h4]
          have f2 := nm1_f (most := 999) h4 hT (by omega)
          exact cmP_t (by omega) f2.2.1 (Or.inl rfl) f1.2.2 f2.2.2
        · rw [if_neg h4]; exact cmP_f (by omega) (by omega)
      · rw [if_neg h3]; exact cmP_f (by omega) (by omega)
    · rw [if_neg h2]; exact cmP_f (by omega) (by omega)
  · rw [if_neg h1]
    by_cases h2 : a < n ∧ T a = 105
    · rw [if_pos h2]; exact cmP_t (by omega) (by omega) (Or.inr (Or.inl rfl)) (by omega) (by omega)
    · rw [if_neg h2]
      by_cases h3 : a < n ∧ T a = 116
      · rw [if_pos h3]
        by_cases h4 : a + 1 < n ∧ bR (nI (T (a + 1))) 48 57 = true
        · rw [if_pos h4]
          have f1 := nm1_f (most := 999) h4 hT (by omega)
          exact cmP_t (by omega) f1.2.1 (Or.inr (Or.inr (Or.inl rfl))) f1.2.2 (by omega)
        · rw [if_neg h4]; exact cmP_f (by omega) (by omega)
      · rw [if_neg h3]
        by_cases h4 : a < n ∧ T a = 119
        · rw [if_pos h4]; exact cmP_t (by omega) (by omega) (Or.inr (Or.inr (Or.inr (Or.inl rfl)))) (by omega) (by omega)
        · rw [if_neg h4]
          by_cases h5 : a < n ∧ T a = 114
          · rw [if_pos h5]
            by_cases h6 : a + 1 < n ∧ bR (nI (T (a + 1))) 48 57 = true
            · rw [if_pos h6]
              have f1 := nm1_f (most := 9) h6 hT (by omega)
              exact cmP_t (by omega) f1.2.1 (Or.inr (Or.inr (Or.inr (Or.inr rfl)))) (by omega) (by omega)
            · rw [if_neg h6]; exact cmP_f (by omega) (by omega)
          · rw [if_neg h5]; exact cmP_f (by omega) ha
def tw (td : Nat → Int32) (tl : Nat) (q : Nat × Int32 × Int32) : Nat → Int32 := upd (upd (upd td (3 * tl) (nI q.1)) (3 * tl + 1) q.2.1) (3 * tl + 2) q.2.2
theorem tw_0 (td : Nat → Int32) (tl : Nat) (q : Nat × Int32 × Int32) : tw td tl q (3 * tl) = nI q.1 := by simp [tw, upd]
theorem tw_1 (td : Nat → Int32) (tl : Nat) (q : Nat × Int32 × Int32) : tw td tl q (3 * tl + 1) = q.2.1 := by simp [tw, upd]
theorem tw_2 (td : Nat → Int32) (tl : Nat) (q : Nat × Int32 × Int32) : tw td tl q (3 * tl + 2) = q.2.2 := by simp [tw, upd]
theorem tw_n (td : Nat → Int32) (tl : Nat) (q : Nat × Int32 × Int32) {j : Nat} (h : j < 3 * tl) : tw td tl q j = td j := by
  unfold tw upd
  rw [if_neg (by omega), if_neg (by omega), if_neg (by omega)]
/-- all commands -/
def rdl (T : Nat → Nat) (n : Nat) : Nat → Bool → Nat → (Nat → Int32) → Nat → Bool × Nat × (Nat → Int32) × Nat
  | 0, b, a, td, tl => (b, a, td, tl)
  | k + 1, b, a, td, tl => if b = true ∧ a < n ∧ T a = 59 then rdl T n k (cmd T n (a + 1)).1 (cmd T n (a + 1)).2.1 (tw td tl (cmd T n (a + 1)).2.2) (tl + 1) else (b, a, td, tl)
theorem rdl_stop {T : Nat → Nat} {n k : Nat} {b : Bool} {a : Nat} {td : Nat → Int32} {tl : Nat} (h : ¬ (b = true ∧ a < n ∧ T a = 59)) : rdl T n k b a td tl = (b, a, td, tl) := by
  cases k with
  | zero => rfl
  | succ k => exact if_neg h
theorem rdl_go {T : Nat → Nat} {n m : Nat} {b : Bool} {a : Nat} {td : Nat → Int32} {tl : Nat} (hm : 1 ≤ m) (h : b = true ∧ a < n ∧ T a = 59) : rdl T n m b a td tl = rdl T n (m - 1) (cmd T n (a + 1)).1 (cmd T n (a + 1)).2.1 (tw td tl (cmd T n (a + 1)).2.2) (tl + 1) := by
  obtain ⟨k, rfl⟩ : ∃ k, m = k + 1 := ⟨m - 1, by omega⟩
  exact if_pos h
def rdA (T : Nat → Nat) (n : Nat) (td : Nat → Int32) : Bool × Nat × (Nat → Int32) × Nat := rdl T n n (cmd T n 0).1 (cmd T n 0).2.1 (tw td 0 (cmd T n 0).2.2) (0 + 1)
def rdB (q : Bool × Nat × (Nat → Int32) × Nat) (n : Nat) : Bool := q.1 && decide (q.2.1 = n)
def rdI (q : Bool × Nat × (Nat → Int32) × Nat) (n : Nat) : Int32 := if rdB q n = true then -1 else nI q.2.1
/-- what is told is well formed -/
def tS (td : Nat → Int32) (j : Nat) : Nat := (td (3 * j)).toNatClampNeg
def tV (td : Nat → Int32) (j : Nat) : Nat := (td (3 * j + 1)).toNatClampNeg
def tW (td : Nat → Int32) (j : Nat) : Nat := (td (3 * j + 2)).toNatClampNeg
def tok (td : Nat → Int32) (j : Nat) : Prop := sorts (tS td j) ∧ td (3 * j) = nI (tS td j) ∧ td (3 * j + 1) = nI (tV td j) ∧ td (3 * j + 2) = nI (tW td j) ∧ tV td j ≤ 999 ∧ tW td j ≤ 999
theorem tok_n {td td2 : Nat → Int32} {j : Nat} (h0 : td2 (3 * j) = td (3 * j)) (h1 : td2 (3 * j + 1) = td (3 * j + 1)) (h2 : td2 (3 * j + 2) = td (3 * j + 2)) (h : tok td j) : tok td2 j := by
  unfold tok tS tV tW at *
  rw [h0, h1, h2]; exact h
theorem tok_of {td : Nat → Int32} {j s v w : Nat} (hs : sorts s) (hv : v ≤ 999) (hw : w ≤ 999) (h0 : td (3 * j) = nI s) (h1 : td (3 * j + 1) = nI v) (h2 : td (3 * j + 2) = nI w) : tok td j := by
  unfold tok tS tV tW
  rw [h0, h1, h2, nI_clamp (by unfold sorts at hs; omega), nI_clamp (by omega), nI_clamp (by omega)]
  exact ⟨hs, rfl, rfl, rfl, hv, hw⟩
theorem tok_cmd {T : Nat → Nat} {n a : Nat} (ha : a ≤ n) (hT : ∀ j, T j < 128) (td : Nat → Int32) (tl : Nat) (h : (cmd T n a).1 = true) : tok (tw td tl (cmd T n a).2.2) tl := by
  obtain ⟨_, hs, v, w, hv, hw, e1, e2⟩ := (cmd_f ha hT).2 h
  exact tok_of hs hv hw (tw_0 _ _ _) ((tw_1 _ _ _).trans e1) ((tw_2 _ _ _).trans e2)
theorem rdl_told {T : Nat → Nat} {n : Nat} (hT : ∀ j, T j < 128) : ∀ m b a td tl, a ≤ n → (∀ j, j + 1 < tl → tok td j) → (b = true → 0 < tl → tok td (tl - 1)) → (rdl T n m b a td tl).1 = true → ∀ j, j < (rdl T n m b a td tl).2.2.2 → tok (rdl T n m b a td tl).2.2.1 j := by
  intro m
  induction m with
  | zero =>
    intro b a td tl _ h1 h2 hb j hj
    have hb : b = true := hb
    have hj : j < tl := hj
    by_cases h : j + 1 < tl
    · exact h1 j h
    · have := h2 hb (by omega); rw [show tl - 1 = j from by omega] at this; exact this
  | succ m ih =>
    intro b a td tl ha h1 h2
    unfold rdl
    split
    · rename_i h
      have hc := cmd_f (T := T) (n := n) (a := a + 1) (by omega) hT
      refine ih _ _ _ _ hc.1.2 (fun j hj => ?_) (fun hq _ => ?_)
      · refine tok_n (td := td) (tw_n _ _ _ (by omega)) (tw_n _ _ _ (by omega)) (tw_n _ _ _ (by omega)) ?_
        by_cases h3 : j + 1 < tl
        · exact h1 j h3
        · have := h2 h.1 (by omega); rw [show tl - 1 = j from by omega] at this; exact this
      · rw [Nat.add_sub_cancel]; exact tok_cmd (by omega) hT _ _ hq
    · intro hb j hj
      have hb : b = true := hb
      have hj : j < tl := hj
      by_cases h : j + 1 < tl
      · exact h1 j h
      · have := h2 hb (by omega); rw [show tl - 1 = j from by omega] at this; exact this
theorem rdA_told {T : Nat → Nat} {n : Nat} (hT : ∀ j, T j < 128) (td : Nat → Int32) (h : rdB (rdA T n td) n = true) : ∀ j, j < (rdA T n td).2.2.2 → tok (rdA T n td).2.2.1 j := by
  unfold rdB at h
  rw [Bool.and_eq_true] at h
  exact rdl_told hT _ _ _ _ _ (cmd_f (Nat.zero_le _) hT).1.2 (fun j hj => by omega) (fun hq _ => tok_cmd (Nat.zero_le _) hT _ _ hq) h.1
theorem rdl_len {T : Nat → Nat} {n : Nat} (hT : ∀ j, T j < 128) : ∀ m b a td tl, a ≤ n → (b = true → 2 * tl ≤ a + 1) → 2 * tl ≤ n + 2 → 2 * (rdl T n m b a td tl).2.2.2 ≤ n + 3 := by
  intro m
  induction m with
  | zero => intro b a td tl _ _ h; show 2 * tl ≤ n + 3; omega
  | succ m ih =>
    intro b a td tl ha h1 h2
    unfold rdl
    split
    · rename_i h
      have hc := cmd_f (T := T) (n := n) (a := a + 1) (by omega) hT
      have h3 := h1 h.1
      exact ih _ _ _ _ hc.1.2 (fun q => by have := (hc.2 q).1; omega) (by omega)
    · show 2 * tl ≤ n + 3; omega
theorem rdA_len {T : Nat → Nat} {n : Nat} (hT : ∀ j, T j < 128) (td : Nat → Int32) : 2 * (rdA T n td).2.2.2 ≤ n + 3 :=
  rdl_len hT _ _ _ _ _ (cmd_f (Nat.zero_le _) hT).1.2 (fun q => by have := ((cmd_f (T := T) (n := n) (Nat.zero_le _) hT).2 q).1; omega) (by omega)
/-- what one command does to the state -/
def dsG (nw : Nat → Int32) (v w : Nat) : Bool × (Nat → Int32) := if v < 64 ∧ bR (nI w) 0 255 = true then (true, upd nw v (nI w)) else (false, nw)
def dsT (nw : Nat → Int32) (v : Nat) : Bool × (Nat → Int32) := if bR (nI v) 1 255 = true then (true, mU (thw (nI v)) nw 64) else (false, nw)
def dsR (nw : Nat → Int32) (v : Nat) : Bool × (Nat → Int32) := if v ≤ 3 then (true, upd nw 64 (nI v)) else (false, nw)
def dsN (nw : Nat → Int32) (s v w : Nat) : Bool × (Nat → Int32) :=
  if s = 103 then dsG nw v w else if s = 105 then (true, mU (fun x => nI 255 - x) nw 64) else if s = 116 then dsT nw v else if s = 119 then (true, upd nw 66 (nI 1 - nw 66)) else dsR nw v
theorem upd_id (f : Nat → Int32) (k : Nat) : upd f k (f k) = f := by
  funext j; unfold upd; by_cases h : j = k
  · rw [if_pos h, h]
  · rw [if_neg h]
def dol (td : Nat → Int32) : Nat → Nat → (Nat → Int32) → Nat × (Nat → Int32)
  | 0, k, nw => (k, nw)
  | m + 1, k, nw => if (dsN nw (tS td k) (tV td k) (tW td k)).1 = true then dol td m (k + 1) (dsN nw (tS td k) (tV td k) (tW td k)).2 else (k, (dsN nw (tS td k) (tV td k) (tW td k)).2)
theorem dol_t {td nw : Nat → Int32} {c k : Nat} (hk : k < c) (h : (dsN nw (tS td k) (tV td k) (tW td k)).1 = true) : dol td (c - k) k nw = dol td (c - (k + 1)) (k + 1) (dsN nw (tS td k) (tV td k) (tW td k)).2 := by
  rw [show c - k = c - (k + 1) + 1 from by omega]; exact if_pos h
theorem dol_n {td nw : Nat → Int32} {c k : Nat} (hk : k < c) (h : (dsN nw (tS td k) (tV td k) (tW td k)).1 = false) : dol td (c - k) k nw = (k, (dsN nw (tS td k) (tV td k) (tW td k)).2) := by
  rw [show c - k = c - (k + 1) + 1 from by omega]; exact if_neg (by rw [h]; exact Bool.false_ne_true)
/-- the characters of a long, as the reference counts them -/
def rcn : Nat → Nat → Bool → Int64 → Nat × Bool × Int64
  | 0, c, b, r => (c, b, r)
  | k + 1, c, b, r => if r &&& 255 = 0 then (c, b, r) else rcn k (c + 1) (b && bR (r &&& 255).toInt32 33 126) (shr8 r)
theorem rcn_stop {k c : Nat} {b : Bool} {r : Int64} (h : k = 0 ∨ r &&& 255 = 0) : rcn k c b r = (c, b, r) := by
  cases k with
  | zero => rfl
  | succ k => exact if_pos (h.resolve_left (by omega))
theorem rcn_go {c : Nat} {b : Bool} {r : Int64} (hc : c < 8) (h : ¬ r &&& 255 = 0) : rcn (8 - c) c b r = rcn (8 - (c + 1)) (c + 1) (b && bR (r &&& 255).toInt32 33 126) (shr8 r) := by
  rw [show 8 - c = 8 - (c + 1) + 1 from by omega]; exact if_neg h
end G7
