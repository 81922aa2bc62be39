/-! the pure words, first: pictures and painting -/
def mU (φ : Int32 → Int32) (f : Nat → Int32) (i : Nat) : Nat → Int32 := fun j => if j < i then φ (f j) else f j
theorem mU_0 (φ : Int32 → Int32) (f : Nat → Int32) : mU φ f 0 = f := by funext j; simp [mU]
theorem mU_at (φ : Int32 → Int32) (f : Nat → Int32) (i : Nat) : mU φ f i i = f i := by simp [mU]
theorem mU_step (φ : Int32 → Int32) (f : Nat → Int32) (i : Nat) : upd (mU φ f i) i (φ (mU φ f i i)) = mU φ f (i + 1) := by
  funext j
  rw [mU_at]
  unfold upd mU
  by_cases h : j = i
  · subst h; simp
  · by_cases h2 : j < i
    · simp [h, h2, Nat.lt_succ_of_lt h2]
    · have h3 : ¬ j < i + 1 := by omega
      simp [h, h2, h3]
/-- how many of the first n are 0 -/
def cz (f : Nat → Int32) : Nat → Nat
  | 0 => 0
  | n + 1 => if f n = 0 then cz f n + 1 else cz f n
theorem cz_z {f : Nat → Int32} {n : Nat} (h : f n = 0) : cz f (n + 1) = cz f n + 1 := if_pos h
theorem cz_n {f : Nat → Int32} {n : Nat} (h : ¬ f n = 0) : cz f (n + 1) = cz f n := if_neg h
theorem cz_le (f : Nat → Int32) : ∀ n, cz f n ≤ n
  | 0 => Nat.le_refl 0
  | n + 1 => by unfold cz; have := cz_le f n; split <;> omega
theorem gcpy {f g : Nat → Int32} {n j : Nat} (hn : n < 2 ^ 31) (hj : j < n) : va_cpy f g (nI 0).toNatClampNeg (nI 0).toNatClampNeg (nI n).toNatClampNeg j = f j := by
  rw [nI_clamp (show 0 < 2 ^ 31 by omega), nI_clamp hn]; exact sb_cpy0 hj
/-- the direction of a row -/
def dirI (w : Bool) (row : Nat) : Int32 := if w = true ∧ row % 2 = 1 then -1 else nI 1
def pcl (w : Bool) (s : Nat) : Nat := if dirI w (s / 8) = nI 1 then 8 * (s / 8) + s % 8 else 8 * (s / 8) + (7 - s % 8)
theorem pcl_lt {w : Bool} {s : Nat} (h : s < 64) : pcl w s < 64 := by unfold pcl; split <;> omega
theorem dirI_cases (w : Bool) (row : Nat) : dirI w row = -1 ∨ dirI w row = nI 1 := by unfold dirI; split; exact Or.inl rfl; exact Or.inr rfl
/-- an error, and the mask of flakes -/
def stp (thr x : Int32) : Int32 := if x < thr then x else x - nI 255
def mkk (thr x : Int32) (c : Nat) (mk : Int64) : Int64 := if x < thr then mk else mk ||| ((1 : Int64) <<< ((nI c).toInt64 &&& 63))
def cIn (r c : Int32) : Int32 := if bR r 0 7 = true ∧ bR c 0 7 = true then nI 8 * r + c else -1
def tI (d : Int32) (j c : Nat) : Int32 := cIn (nI (c / 8 + nD j)) (nI (c % 8) + zA j * d)
def tN (d : Int32) (j c : Nat) : Nat := (tI d j c).toNatClampNeg
def lft (e : Int32) (a : Nat) : Nat → Int32
  | 0 => e
  | k + 1 => lft e a k - e * zW (a + k) / nI 16
def sh (r j : Nat) (e : Int32) : Int32 := if j < nF (r + 1) - 1 then e * zW j / nI 16 else lft e (nF r) (nF (r + 1) - 1 - nF r)
theorem nF_f {r : Nat} (h : r < 4) : nF r < nF (r + 1) ∧ nF (r + 1) ≤ 12 := by revert h; revert r; decide
theorem tI_f1 : ∀ c, c < 64 → ∀ j, j < 12 → tI (-1) j c = -1 ∨ ((tI (-1) j c).toNatClampNeg < 64 ∧ tI (-1) j c = nI (tI (-1) j c).toNatClampNeg) := by decide +kernel
theorem tI_f2 : ∀ c, c < 64 → ∀ j, j < 12 → tI (nI 1) j c = -1 ∨ ((tI (nI 1) j c).toNatClampNeg < 64 ∧ tI (nI 1) j c = nI (tI (nI 1) j c).toNatClampNeg) := by decide +kernel
theorem tI_nat {d : Int32} {j c : Nat} (hd : d = -1 ∨ d = nI 1) (hj : j < 12) (hc : c < 64) (h : ¬ tI d j c = -1) : tN d j c < 64 ∧ tI d j c = nI (tN d j c) := by
  rcases hd with rfl | rfl
  · rcases tI_f1 c hc j hj with q | q
    · exact absurd q h
    · exact q
  · rcases tI_f2 c hc j hj with q | q
    · exact absurd q h
    · exact q
/-- handing on: the values and what is lost -/
def hst (d : Int32) (r c : Nat) (e : Int32) (k : Nat) (s : (Nat → Int32) × Int32) : (Nat → Int32) × Int32 :=
  if tI d (nF r + k) c = -1 then (s.1, s.2 + sh r (nF r + k) e) else (upd s.1 (tN d (nF r + k) c) (s.1 (tN d (nF r + k) c) + sh r (nF r + k) e), s.2)
def hnd (d : Int32) (r c : Nat) (e : Int32) : Nat → (Nat → Int32) × Int32 → (Nat → Int32) × Int32
  | 0, s => s
  | k + 1, s => hst d r c e k (hnd d r c e k s)
theorem hnd_p {d : Int32} {r c k : Nat} {e : Int32} {s : (Nat → Int32) × Int32} (h : tI d (nF r + k) c = -1) : hnd d r c e (k + 1) s = ((hnd d r c e k s).1, (hnd d r c e k s).2 + sh r (nF r + k) e) := if_pos h
theorem hnd_n {d : Int32} {r c k : Nat} {e : Int32} {s : (Nat → Int32) × Int32} (h : ¬ tI d (nF r + k) c = -1) : hnd d r c e (k + 1) s = (upd (hnd d r c e k s).1 (tN d (nF r + k) c) ((hnd d r c e k s).1 (tN d (nF r + k) c) + sh r (nF r + k) e), (hnd d r c e k s).2) := if_neg h
def cntR (r : Nat) : Nat := nF (r + 1) - nF r
/-- painting by handing on: values, errors, mask, lost -/
abbrev gPt : Type := (Nat → Int32) × (Nat → Int32) × Int64 × Int32
def pst1 (w : Bool) (r : Nat) (thr : Int32) (c : Nat) (q : gPt) : gPt :=
  ((hnd (dirI w (c / 8)) r c (stp thr (q.1 c)) (cntR r) (q.1, q.2.2.2)).1, upd q.2.1 c (stp thr (q.1 c)), mkk thr (q.1 c) c q.2.2.1, (hnd (dirI w (c / 8)) r c (stp thr (q.1 c)) (cntR r) (q.1, q.2.2.2)).2)
def pst (w : Bool) (r : Nat) (thr : Int32) (q : gPt) : Nat → gPt
  | 0 => q
  | s + 1 => pst1 w r thr (pcl w s) (pst w r thr q s)
theorem upd_at (f : Nat → Int32) (k : Nat) (x : Int32) : upd f k x k = x := by simp [upd]
/-- collecting -/
def gI (w : Bool) (j c : Nat) : Int32 := cIn (nI (c / 8) - nI (nD j)) (nI (c % 8) - zA j * (if nD j ≤ c / 8 then dirI w (c / 8 - nD j) else nI 1))
def gN (w : Bool) (j c : Nat) : Nat := (gI w j c).toNatClampNeg
theorem gI_f : ∀ c, c < 64 → ∀ j, j < 12 → ∀ w : Bool, gI w j c = -1 ∨ ((gI w j c).toNatClampNeg < 64 ∧ gI w j c = nI (gI w j c).toNatClampNeg) := by decide +kernel
theorem gI_nat {w : Bool} {j c : Nat} (hj : j < 12) (hc : c < 64) (h : ¬ gI w j c = -1) : gN w j c < 64 ∧ gI w j c = nI (gN w j c) := by
  rcases gI_f c hc j hj w with q | q
  · exact absurd q h
  · exact q
def clt (w : Bool) (r c : Nat) (fe : Nat → Int32) : Nat → Int32
  | 0 => nI 0
  | k + 1 => if gI w (nF r + k) c = -1 then clt w r c fe k else clt w r c fe k + sh r (nF r + k) (fe (gN w (nF r + k) c))
def cst1 (w : Bool) (r : Nat) (thr : Int32) (g : Nat → Int32) (c : Nat) (q : gPt) : gPt :=
  (upd q.1 c (g c + clt w r c q.2.1 (cntR r)), upd q.2.1 c (stp thr (g c + clt w r c q.2.1 (cntR r))), mkk thr (g c + clt w r c q.2.1 (cntR r)) c q.2.2.1, q.2.2.2)
def cst (w : Bool) (r : Nat) (thr : Int32) (g : Nat → Int32) (q : gPt) : Nat → gPt
  | 0 => q
  | s + 1 => cst1 w r thr g (pcl w s) (cst w r thr g q s)
/-- how well a region is met -/
def bitI (mk : Int64) (c : Nat) : Int64 := (mk.toUInt64 >>> ((nI c).toInt64.toUInt64 &&& Int64.toUInt64 63)).toInt64 &&& 1
def dfo (mk : Int64) (f : Nat → Int32) (c : Nat) : Int32 := if bitI mk c = 1 then f c - nI 255 else f c
def dsq (mk : Int64) (f : Nat → Int32) (c : Nat) : Int32 := dfo mk f c + dfo mk f (c + 1) + dfo mk f (c + 8) + dfo mk f (c + 8 + 1)
def aI (x : Int32) : Int32 := if 0 ≤ x then x else 0 - x
def cor (q : Nat) : Nat := 16 * (q / 4) + 2 * (q % 4)
def dall (mk : Int64) (f : Nat → Int32) : Nat → Int32
  | 0 => nI 0
  | q + 1 => dall mk f q + aI (dsq mk f (cor q))
theorem lg_cmp_0 {x y : Int64} : lg_cmp x y = 0 ↔ x = y := by
  unfold lg_cmp
  split
  · rename_i h; exact ⟨fun z => absurd z (by decide), fun z => by subst z; exact absurd h (by simp)⟩
  · split
    · rename_i h1 h2; first | exact ⟨fun z => absurd z (by decide), fun z => absurd z (by first | exact h2 | (intro z; subst z; simp_all))⟩ | exact ⟨fun _ => h2, fun _ => rfl⟩
    · rename_i h1 h2; first | exact ⟨fun _ => by simp_all, fun _ => rfl⟩ | exact ⟨fun z => absurd z (by decide), fun z => absurd z h2⟩
theorem gsub_le {a b : Nat} (ha : a < 2 ^ 30) (hb : b < 2 ^ 30) (z : 0 ≤ (nI a - nI b).toInt) : b ≤ a := by rw [pk_sub_toInt ha hb] at z; omega
theorem gI_p {w : Bool} {j c : Nat} (h : nD j ≤ c / 8) : cIn (nI (c / 8 - nD j)) (nI (c % 8) - zA j * dirI w (c / 8 - nD j)) = gI w j c := by unfold gI; rw [if_pos h, pk_sub h]
theorem gI_m {w : Bool} {j c : Nat} (hb : nD j < 2 ^ 30) (ha : c / 8 < 2 ^ 30) (z : (nI (c / 8) - nI (nD j)).toInt < 0) : cIn (nI (c / 8) - nI (nD j)) (nI (c % 8) - zA j * nI 1) = gI w j c := by
  unfold gI; rw [if_neg (by rw [pk_sub_toInt ha hb] at z; omega)]
theorem pst_s1 (w : Bool) (r : Nat) (thr : Int32) (q : gPt) (i : Nat) : (hnd (dirI w (pcl w i / 8)) r (pcl w i) (upd (pst w r thr q i).2.1 (pcl w i) (stp thr ((pst w r thr q i).1 (pcl w i))) (pcl w i)) (cntR r) ((pst w r thr q i).1, (pst w r thr q i).2.2.2)).1 = (pst w r thr q (i + 1)).1 := by rw [upd_at]; rfl
theorem pst_s4 (w : Bool) (r : Nat) (thr : Int32) (q : gPt) (i : Nat) : (hnd (dirI w (pcl w i / 8)) r (pcl w i) (upd (pst w r thr q i).2.1 (pcl w i) (stp thr ((pst w r thr q i).1 (pcl w i))) (pcl w i)) (cntR r) ((pst w r thr q i).1, (pst w r thr q i).2.2.2)).2 = (pst w r thr q (i + 1)).2.2.2 := by rw [upd_at]; rfl
theorem cst_s2 (w : Bool) (r : Nat) (thr : Int32) (g : Nat → Int32) (q : gPt) (i : Nat) : upd (cst w r thr g q i).2.1 (pcl w i) (stp thr (upd (cst w r thr g q i).1 (pcl w i) (g (pcl w i) + clt w r (pcl w i) (cst w r thr g q i).2.1 (cntR r)) (pcl w i))) = (cst w r thr g q (i + 1)).2.1 := by rw [upd_at]; rfl
theorem cst_s3 (w : Bool) (r : Nat) (thr : Int32) (g : Nat → Int32) (q : gPt) (i : Nat) : mkk thr (upd (cst w r thr g q i).1 (pcl w i) (g (pcl w i) + clt w r (pcl w i) (cst w r thr g q i).2.1 (cntR r)) (pcl w i)) (pcl w i) (cst w r thr g q i).2.2.1 = (cst w r thr g q (i + 1)).2.2.1 := by rw [upd_at]; rfl
theorem lg_ne {x y : Int64} (h : ¬ lg_cmp x y = 0) : ¬ x = y := fun z => h (lg_cmp_0.mpr z)
