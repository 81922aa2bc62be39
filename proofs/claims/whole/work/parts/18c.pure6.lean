/-! the pure words, sixth: the class's further reads, its filling, its commands -/
section G6
def lsr (x : Int64) (k : Nat) : Int64 := (x.toUInt64 >>> ((nI k).toInt64.toUInt64 &&& Int64.toUInt64 63)).toInt64
def bc1 (x : Int64) : Int64 := x - (lsr x 1 &&& 6148914691236517205)
def bc2 (x : Int64) : Int64 := (x &&& 3689348814741910323) + (lsr x 2 &&& 3689348814741910323)
def bc3 (x : Int64) : Int64 := (x + lsr x 4) &&& 1085102592571150095
def bc4 (x : Int64) (k : Nat) : Int64 := x + lsr x k
def bcI (x : Int64) : Int32 := (bc4 (bc4 (bc4 (bc3 (bc2 (bc1 x))) 8) 16) 32).toInt32 &&& nI 127
def mi8 (a : Nat) : Nat := if 8 < a then 8 else a
theorem mi8_I {a : Nat} (h : a < 2 ^ 31) : (if nI 8 < nI a then nI 8 else nI a) = nI (mi8 a) := by
  unfold mi8
  by_cases h1 : 8 < a
  · rw [if_pos h1, if_pos ((nI_ltI (by omega) h).mpr h1)]
  · rw [if_neg h1, if_neg (fun z => h1 ((nI_ltI (by omega) h).mp z))]
def fcF (f : Nat → Int32) (c w : Nat) (g : Int32) (a b : Nat) : Nat → Int32 := fun j => if c / 8 ≤ j / 8 ∧ c % 8 ≤ j % 8 ∧ j % 8 < c % 8 + w ∧ (j / 8 < c / 8 + a ∨ (j / 8 = c / 8 + a ∧ j % 8 < c % 8 + b)) then g else f j
theorem fcF_0 (f : Nat → Int32) (c w : Nat) (g : Int32) : f = fcF f c w g 0 0 := by funext j; unfold fcF; exact (if_neg (by omega)).symm
theorem fcF_s {f : Nat → Int32} {c w : Nat} {g : Int32} {a b : Nat} (hb : b < w) (hw : c % 8 + w ≤ 8) : upd (fcF f c w g a b) (8 * (c / 8 + a) + (c % 8 + b)) g = fcF f c w g a (b + 1) := by
  funext j
  unfold upd fcF
  by_cases h1 : j = 8 * (c / 8 + a) + (c % 8 + b)
  · rw [if_pos h1, if_pos (by omega)]
  · rw [if_neg h1]
    by_cases h2 : c / 8 ≤ j / 8 ∧ c % 8 ≤ j % 8 ∧ j % 8 < c % 8 + w ∧ (j / 8 < c / 8 + a ∨ (j / 8 = c / 8 + a ∧ j % 8 < c % 8 + b))
    · rw [if_pos h2, if_pos (by omega)]
    · rw [if_neg h2, if_neg (by omega)]
theorem fcF_r (f : Nat → Int32) (c w : Nat) (g : Int32) (a : Nat) : fcF f c w g a w = fcF f c w g (a + 1) 0 := by
  funext j
  unfold fcF
  by_cases h2 : c / 8 ≤ j / 8 ∧ c % 8 ≤ j % 8 ∧ j % 8 < c % 8 + w ∧ (j / 8 < c / 8 + a ∨ (j / 8 = c / 8 + a ∧ j % 8 < c % 8 + w))
  · rw [if_pos h2, if_pos (by omega)]
  · rw [if_neg h2, if_neg (by omega)]
theorem fcF_at {f : Nat → Int32} {c w : Nat} {g : Int32} {a b : Nat} (hw : c % 8 + b < 8) : fcF f c w g a b (8 * (c / 8 + a) + (c % 8 + b)) = f (8 * (c / 8 + a) + (c % 8 + b)) := if_neg (by omega)
def fcB (f : Nat → Int32) (c : Nat) (g : Int32) (a : Nat) : Nat → Nat
  | 0 => 0
  | b + 1 => if f (8 * (c / 8 + a) + (c % 8 + b)) = g then fcB f c g a b else fcB f c g a b + 1
theorem fcB_t {f : Nat → Int32} {c w : Nat} {g : Int32} {a b : Nat} (hw : c % 8 + b < 8) (h : fcF f c w g a b (8 * (c / 8 + a) + (c % 8 + b)) = g) : fcB f c g a b = fcB f c g a (b + 1) := by
  rw [fcF_at hw] at h; exact (if_pos h).symm
theorem fcB_f {f : Nat → Int32} {c w : Nat} {g : Int32} {a b : Nat} (hw : c % 8 + b < 8) (h : ¬ fcF f c w g a b (8 * (c / 8 + a) + (c % 8 + b)) = g) : fcB f c g a b + 1 = fcB f c g a (b + 1) := by
  rw [fcF_at hw] at h; exact (if_neg h).symm
def fcA (f : Nat → Int32) (c w : Nat) (g : Int32) : Nat → Nat
  | 0 => 0
  | a + 1 => fcA f c w g a + fcB f c g a w
theorem fcB_le (f : Nat → Int32) (c : Nat) (g : Int32) (a : Nat) : ∀ b, fcB f c g a b ≤ b
  | 0 => Nat.le_refl _
  | b + 1 => by
    have h := fcB_le f c g a b
    unfold fcB
    split <;> omega
theorem fcA_le (f : Nat → Int32) (c w : Nat) (g : Int32) : ∀ a, fcA f c w g a ≤ a * w
  | 0 => by rw [Nat.zero_mul]; exact Nat.le_refl _
  | a + 1 => by
    have h := fcA_le f c w g a
    have h2 := fcB_le f c g a w
    show fcA f c w g a + fcB f c g a w ≤ (a + 1) * w
    rw [Nat.succ_mul]
    omega
/-- the least roughness: the class's walk over the rules -/
def cls9 (R : Nat → Int32) : Nat → Nat × Int32
  | 0 => (0, R 0)
  | k + 1 => if R (k + 1) < (cls9 R k).2 then (k + 1, R (k + 1)) else cls9 R k
theorem cls9_t {R : Nat → Int32} {k : Nat} (h : R (k + 1) < (cls9 R k).2) : (k + 1, R (k + 1)) = cls9 R (k + 1) := (if_pos h).symm
theorem cls9_f {R : Nat → Int32} {k : Nat} (h : ¬ R (k + 1) < (cls9 R k).2) : cls9 R k = cls9 R (k + 1) := (if_neg h).symm
/-- the least threshold: the class's walk -/
def tfC (w : Bool) (r : Nat) (f : Nat → Int32) (v : Int32) : Nat → Nat → Int32 × Nat
  | 0, k => (-1, k)
  | m + 1, k => if bcI (pM w r (nI (k + 1)) f) ≤ v then (nI (k + 1), k + 1) else tfC w r f v m (k + 1)
theorem tfC_t {w : Bool} {r : Nat} {f : Nat → Int32} {v : Int32} {k : Nat} (hk : k < 255) (h : bcI (pM w r (nI (k + 1)) f) ≤ v) : tfC w r f v (255 - k) k = (nI (k + 1), k + 1) := by
  rw [show 255 - k = 255 - (k + 1) + 1 from by omega]; exact if_pos h
theorem tfC_n {w : Bool} {r : Nat} {f : Nat → Int32} {v : Int32} {k : Nat} (hk : k < 255) (h : ¬ bcI (pM w r (nI (k + 1)) f) ≤ v) : tfC w r f v (255 - k) k = tfC w r f v (255 - (k + 1)) (k + 1) := by
  rw [show 255 - k = 255 - (k + 1) + 1 from by omega]; exact if_neg h
/-- what painting left after k thresholds -/
def tcV {α : Type} (x : α) (y : Nat → α) : Nat → α
  | 0 => x
  | k + 1 => y k
/-- handed on: the class's search -/
def hoC (w : Bool) (r c : Nat) (o e : Int32) : Nat → Nat → Int32
  | 0, _ => nI 0
  | m + 1, k => if tI (dirI w (c / 8)) (nF r + k) c = o then sh r (nF r + k) e else hoC w r c o e m (k + 1)
theorem hoC_t {w : Bool} {r c k : Nat} {o e : Int32} (hk : k < cntR r) (h : tI (dirI w (c / 8)) (nF r + k) c = o) : hoC w r c o e (cntR r - k) k = sh r (nF r + k) e := by
  rw [show cntR r - k = cntR r - (k + 1) + 1 from by omega]; exact if_pos h
theorem hoC_n {w : Bool} {r c k : Nat} {o e : Int32} (hk : k < cntR r) (h : ¬ tI (dirI w (c / 8)) (nF r + k) c = o) : hoC w r c o e (cntR r - k) k = hoC w r c o e (cntR r - (k + 1)) (k + 1) := by
  rw [show cntR r - k = cntR r - (k + 1) + 1 from by omega]; exact if_neg h
/-- a command's doing -/
abbrev exT : Type := (Nat → Int32) × Int32 × Bool
def exG (s : exT) (v g : Int32) : Bool × exT := if bR v 0 63 = true ∧ bR g 0 255 = true then (true, upd s.1 v.toNatClampNeg g, s.2) else (false, s)
def leS (v : Int32) : Int32 → Int32 := fun x => if x - v < nI 0 then nI 0 else x - v
def exH (s : exT) (v : Int32) : Bool × exT := if bR v 1 255 = true then (true, mU (fun x => if x - v < nI 0 then nI 0 else x - v) s.1 64, s.2) else (false, s)
def exR (s : exT) (v : Int32) : Bool × exT := if bR v 0 3 = true then (true, s.1, v, s.2.2) else (false, s)
def num1 (T : Nat → Nat) (n i : Nat) : Int32 := nI (nmb T n (n - (i + 1)) (i + 1) 0)
def num2 (T : Nat → Nat) (n i : Nat) : Int32 := nI (nmb T n (n - (fnd T n 61 (n - i) i + 1)) (fnd T n 61 (n - i) i + 1) 0)
def ex1 (T : Nat → Nat) (n i : Nat) (s : exT) : Bool × exT :=
  if chr T n i = 103 then exG s (num1 T n i) (num2 T n i)
  else if chr T n i = 105 then (true, mU (fun x => nI 255 - x) s.1 64, s.2)
  else if chr T n i = 114 then exR s (num1 T n i)
  else if chr T n i = 116 then exH s (num1 T n i)
  else if chr T n i = 119 then (true, s.1, s.2.1, !s.2.2)
  else (false, s)
def exA (T : Nat → Nat) (n : Nat) : Nat → Nat → Nat → exT → Nat × exT
  | 0, _, k, s => (k, s)
  | m + 1, i, k, s => if bgc T n i = true then (if (ex1 T n i s).1 = true then exA T n m (i + 1) (k + 1) (ex1 T n i s).2 else (k, (ex1 T n i s).2)) else exA T n m (i + 1) k s
theorem exA_n {T : Nat → Nat} {n i k : Nat} {s : exT} (hi : i < n) (h : bgc T n i = false) : exA T n (n - i) i k s = exA T n (n - (i + 1)) (i + 1) k s := by
  rw [show n - i = n - (i + 1) + 1 from by omega]; exact if_neg (by rw [h]; exact Bool.false_ne_true)
theorem exA_t {T : Nat → Nat} {n i k : Nat} {s : exT} (hi : i < n) (h : bgc T n i = true) (h2 : (ex1 T n i s).1 = true) : exA T n (n - i) i k s = exA T n (n - (i + 1)) (i + 1) (k + 1) (ex1 T n i s).2 := by
  rw [show n - i = n - (i + 1) + 1 from by omega]; exact (if_pos h).trans (if_pos h2)
theorem exA_f {T : Nat → Nat} {n i k : Nat} {s : exT} (hi : i < n) (h : bgc T n i = true) (h2 : (ex1 T n i s).1 = false) : exA T n (n - i) i k s = (k, (ex1 T n i s).2) := by
  rw [show n - i = n - (i + 1) + 1 from by omega]; exact (if_pos h).trans (if_neg (by rw [h2]; exact Bool.false_ne_true))
theorem fnd_le (T : Nat → Nat) (n ch : Nat) : ∀ k i, i + k ≤ n → fnd T n ch k i ≤ n := by
  intro k
  induction k with
  | zero => intro i h; show i ≤ n; omega
  | succ k ih =>
    intro i h
    unfold fnd
    split
    · exact ih (i + 1) (by omega)
    · omega
theorem bR_N63 {v : Int32} (h : bR v 0 63 = true) : ∃ j, j < 64 ∧ v = nI j := by
  obtain ⟨j, h1, h2, h3⟩ := bR_nat h
  exact ⟨j, by omega, h3⟩
theorem nI_nm1 {k : Nat} (h : k < 2 ^ 31) : ¬ nI k = -1 := by
  intro q
  have h2 := congrArg Int32.toInt q
  rw [nI_toInt h] at h2
  have h3 : (-1 : Int32).toInt = -1 := by decide
  omega
theorem chr_lt {T : Nat → Nat} (hT : ∀ j, T j < 128) (n i : Nat) : chr T n i < 128 := by unfold chr; split; exact hT i; omega
theorem lk_b0 : ∀ ch : Nat, ch < 128 → (ch = 103 ∨ ch = 105 ∨ ch = 114 ∨ ch = 116 ∨ ch = 119) ∨ Op.lookupswitch.offset [(103, 52), (105, 86), (114, 134), (116, 95), (119, 110)] 149 (Int.ofNat ch) = 149 := by decide +kernel
theorem lk_b (ch : Nat) (h : ch < 128) (h1 : ¬ ch = 103) (h2 : ¬ ch = 105) (h3 : ¬ ch = 114) (h4 : ¬ ch = 116) (h5 : ¬ ch = 119) : Op.lookupswitch.offset [(103, 52), (105, 86), (114, 134), (116, 95), (119, 110)] 149 (ch : Int) = 149 := by
  rcases lk_b0 ch h with q | q
  · omega
  · exact q
theorem bst (s : Nat → Bool) (i : Nat) : upd (fun j => gB (s j)) i (vp_nar .boolean (nI 1)) = fun j => gB (pset s i true j) := by
  funext j
  unfold upd pset
  by_cases h : j = i
  · rw [if_pos h, if_pos h]; decide +kernel
  · rw [if_neg h, if_neg h]
end G6
