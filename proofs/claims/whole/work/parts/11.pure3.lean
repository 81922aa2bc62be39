/-! the pure words, third: the reference -/
theorem gB_eq1 {b : Bool} (h : gB b = nI 1) : b = true := by cases b; exact absurd h (by decide); rfl
theorem gB_ne1 {b : Bool} (h : ¬ gB b = nI 1) : b = false := by cases b; rfl; exact absurd (by decide) h
theorem cpy_0 {α : Type} (f g : Nat → α) (x y : Nat) : va_cpy f g x y 0 = g := by funext j; unfold va_cpy; exact if_neg (by omega)
theorem cpy_s (f g : Nat → Int32) (x y k : Nat) : upd (va_cpy f g x y k) (y + k) (f (x + k)) = va_cpy f g x y (k + 1) := by
  funext j
  unfold upd va_cpy
  by_cases h1 : j = y + k
  · subst h1
    rw [if_pos rfl, if_pos (by omega), show y + k - y = k from by omega]
  · rw [if_neg h1]
    by_cases h2 : y ≤ j ∧ j < y + k
    · rw [if_pos h2, if_pos (by omega)]
    · rw [if_neg h2, if_neg (by omega)]
def shl (f : Nat → Int32) (i : Nat) : Nat → Int32 := fun j => if j < i then f (j + 67) else f j
theorem shl_0 (f : Nat → Int32) : f = shl f 0 := by funext j; unfold shl; exact (if_neg (by omega)).symm
theorem shl_s (f : Nat → Int32) (i : Nat) : upd (shl f i) i (shl f i (i + 67)) = shl f (i + 1) := by
  funext j
  unfold upd shl
  by_cases h1 : j = i
  · subst h1; rw [if_pos rfl, if_neg (by omega), if_pos (by omega)]
  · rw [if_neg h1]
    by_cases h2 : j < i
    · rw [if_pos h2, if_pos (by omega)]
    · rw [if_neg h2, if_neg (by omega)]
/-- the past, with one state more -/
def kP (ps nw : Nat → Int32) (n : Nat) : Nat → Int32 := if n = 6 then va_cpy nw (shl ps 335) 0 335 67 else va_cpy nw ps 0 (67 * n) 67
theorem rk_cases {r k : Nat} (hr : r < 4) (hk : k < cntR r) : (r = 0 ∧ k = 0) ∨ (r = 1 ∧ k = 0) ∨ (r = 1 ∧ k = 1) ∨ (r = 2 ∧ k = 0) ∨ (r = 2 ∧ k = 1) ∨ (r = 2 ∧ k = 2) ∨ (r = 2 ∧ k = 3) ∨ (r = 3 ∧ k = 0) ∨ (r = 3 ∧ k = 1) ∨ (r = 3 ∧ k = 2) ∨ (r = 3 ∧ k = 3) ∨ (r = 3 ∧ k = 4) := by
  rcases (show r = 0 ∨ r = 1 ∨ r = 2 ∨ r = 3 by omega) with rfl | rfl | rfl | rfl
  · have : cntR 0 = 1 := by decide
    omega
  · have : cntR 1 = 2 := by decide
    omega
  · have : cntR 2 = 4 := by decide
    omega
  · have : cntR 3 = 5 := by decide
    omega
theorem rk_cases1 {r k : Nat} (hr : r < 4) (hk : k < cntR r - 1) : (r = 1 ∧ k = 0) ∨ (r = 2 ∧ k = 0) ∨ (r = 2 ∧ k = 1) ∨ (r = 2 ∧ k = 2) ∨ (r = 3 ∧ k = 0) ∨ (r = 3 ∧ k = 1) ∨ (r = 3 ∧ k = 2) ∨ (r = 3 ∧ k = 3) := by
  rcases (show r = 0 ∨ r = 1 ∨ r = 2 ∨ r = 3 by omega) with rfl | rfl | rfl | rfl
  · have : cntR 0 = 1 := by decide
    omega
  · have : cntR 1 = 2 := by decide
    omega
  · have : cntR 2 = 4 := by decide
    omega
  · have : cntR 3 = 5 := by decide
    omega
theorem cntR_pos {r : Nat} (hr : r < 4) : 1 ≤ cntR r ∧ cntR r ≤ 5 := by revert hr; revert r; decide
def flB (er va : Nat → Int32) (c : Nat) : Bool := decide (¬ er c = va c)
def mny (er va : Nat → Int32) : Nat → Nat
  | 0 => 0
  | n + 1 => if flB er va n = true then mny er va n + 1 else mny er va n
theorem mny_t {er va : Nat → Int32} {n : Nat} (h : flB er va n = true) : mny er va (n + 1) = mny er va n + 1 := if_pos h
theorem mny_f {er va : Nat → Int32} {n : Nat} (h : flB er va n = false) : mny er va (n + 1) = mny er va n + 0 := if_neg (by rw [h]; exact Bool.false_ne_true)
theorem mny_le (er va : Nat → Int32) : ∀ n, mny er va n ≤ n
  | 0 => Nat.le_refl 0
  | n + 1 => by have := mny_le er va n; unfold mny; split <;> omega
def fl255 (er va : Nat → Int32) (c : Nat) : Int32 := if flB er va c = true then nI 255 else nI 0
def osq (q k : Nat) : Nat := 8 * (2 * (q / 4) + k / 2) + 2 * (q % 4) + k % 2
def ofs (nw er va : Nat → Int32) (q : Nat) : Nat → Int32
  | 0 => nI 0
  | k + 1 => ofs nw er va q k + (nw (osq q k) - fl255 er va (osq q k))
theorem ofs_t {nw er va : Nat → Int32} {q k : Nat} (h : flB er va (osq q k) = true) : ofs nw er va q k + (nw (osq q k) - nI 255) = ofs nw er va q (k + 1) := by
  show _ = ofs nw er va q k + (nw (osq q k) - fl255 er va (osq q k)); unfold fl255; rw [if_pos h]
theorem ofs_f {nw er va : Nat → Int32} {q k : Nat} (h : flB er va (osq q k) = false) : ofs nw er va q k + (nw (osq q k) - nI 0) = ofs nw er va q (k + 1) := by
  show _ = ofs nw er va q k + (nw (osq q k) - fl255 er va (osq q k)); unfold fl255; rw [if_neg (by rw [h]; exact Bool.false_ne_true)]
def nab (x : Int32) : Int32 := if 0 ≤ x then x else -x
def aof (nw er va : Nat → Int32) : Nat → Int32
  | 0 => nI 0
  | q + 1 => aof nw er va q + nab (ofs nw er va q 4)
theorem cpy_s0 (f g : Nat → Int32) (k : Nat) : upd (va_cpy f g 0 0 k) k (f k) = va_cpy f g 0 0 (k + 1) := by
  have h := cpy_s f g 0 0 k
  rw [Nat.zero_add] at h
  exact h
theorem cpy_all (f g : Nat → Int32) : ∀ j, j < 64 → va_cpy f g 0 0 64 j = f j := fun _ hj => sb_cpy0 hj
/-- a row that rises or falls -/
def sgr (a b : Int32) (c : Nat) : Int32 := a + (b - a) * nI c / nI 7
def srow (f : Nat → Int32) (ro : Nat) (a b : Int32) (n : Nat) : Nat → Int32 := fun j => if 8 * ro ≤ j ∧ j < 8 * ro + n then sgr a b (j - 8 * ro) else f j
theorem srow_0 (f : Nat → Int32) (ro : Nat) (a b : Int32) : f = srow f ro a b 0 := by funext j; unfold srow; exact (if_neg (by omega)).symm
theorem srow_s (f : Nat → Int32) (ro : Nat) (a b : Int32) (n : Nat) : upd (srow f ro a b n) (8 * ro + n) (sgr a b n) = srow f ro a b (n + 1) := by
  funext j
  unfold upd srow
  by_cases h1 : j = 8 * ro + n
  · subst h1
    rw [if_pos rfl, if_pos (by omega), Nat.add_sub_cancel_left]
  · rw [if_neg h1]
    by_cases h2 : 8 * ro ≤ j ∧ j < 8 * ro + n
    · rw [if_pos h2, if_pos (by omega)]
    · rw [if_neg h2, if_neg (by omega)]
def ssum (a b : Int32) : Nat → Int32
  | 0 => nI 0
  | n + 1 => ssum a b n + sgr a b n
/-- the reference's thaw -/
def thw (am x : Int32) : Int32 := if am < x then x - am else nI 0
theorem thw_le {am x : Int32} (h : x ≤ am) : nI 0 = thw am x := (if_neg (Int32.not_lt.mpr h)).symm
theorem thw_gt {am x : Int32} (h : ¬ x ≤ am) : x - am = thw am x := (if_pos (Int32.not_le.mp h)).symm
theorem cz_z0 {φ : Int32 → Int32} {f : Nat → Int32} {n : Nat} (h : upd (mU φ f n) n (φ (mU φ f n n)) n = 0) : cz (fun j => φ (f j)) n + 1 = cz (fun j => φ (f j)) (n + 1) := by
  rw [upd_at, mU_at] at h
  exact (if_pos h).symm
theorem cz_n0 {φ : Int32 → Int32} {f : Nat → Int32} {n : Nat} (h : ¬ upd (mU φ f n) n (φ (mU φ f n n)) n = 0) : cz (fun j => φ (f j)) n + 0 = cz (fun j => φ (f j)) (n + 1) := by
  rw [upd_at, mU_at] at h
  exact (if_neg h).symm
/-- handed on: the reference's sum -/
def hdo (w : Bool) (r c : Nat) (o : Int32) (e : Int32) : Nat → Int32
  | 0 => nI 0
  | k + 1 => if tI (dirI w (c / 8)) (nF r + k) c = o then hdo w r c o e k + sh r (nF r + k) e else hdo w r c o e k + nI 0
theorem hdo_t {w : Bool} {r c k : Nat} {o e : Int32} (h : tI (dirI w (c / 8)) (nF r + k) c = o) : hdo w r c o e k + sh r (nF r + k) e = hdo w r c o e (k + 1) := (if_pos h).symm
theorem hdo_f {w : Bool} {r c k : Nat} {o e : Int32} (h : ¬ tI (dirI w (c / 8)) (nF r + k) c = o) : hdo w r c o e k + nI 0 = hdo w r c o e (k + 1) := (if_neg h).symm
def mkR (er va : Nat → Int32) : Nat → Int64
  | 0 => 0
  | n + 1 => if flB er va n = true then mkR er va n ||| ((1 : Int64) <<< ((nI n).toInt64 &&& 63)) else mkR er va n ||| 0
theorem mkR_t {er va : Nat → Int32} {n : Nat} (h : flB er va n = true) : mkR er va n ||| ((1 : Int64) <<< ((nI n).toInt64 &&& 63)) = mkR er va (n + 1) := (if_pos h).symm
theorem mkR_f {er va : Nat → Int32} {n : Nat} (h : flB er va n = false) : mkR er va n ||| 0 = mkR er va (n + 1) := (if_neg (by rw [h]; exact Bool.false_ne_true)).symm
theorem one_m (b : Bool) : nI 1 - gB b = gB (!b) := by cases b <;> decide +kernel
/-- a rectangle, as the reference fills it -/
def rct (c ht wd i : Nat) : Bool := bR (nI (i / 8) - nI (c / 8)) 0 (ht - 1) && bR (nI (i % 8) - nI (c % 8)) 0 (wd - 1)
theorem rct_t {c ht wd i : Nat} (h1 : bR (nI (i / 8) - nI (c / 8)) 0 (ht - 1) = true) (h2 : bR (nI (i % 8) - nI (c % 8)) 0 (wd - 1) = true) : rct c ht wd i = true := by unfold rct; rw [h1, h2]; rfl
theorem rct_f1 {c ht wd i : Nat} (h1 : bR (nI (i / 8) - nI (c / 8)) 0 (ht - 1) = false) : rct c ht wd i = false := by unfold rct; rw [h1]; rfl
theorem rct_f2 {c ht wd i : Nat} (h2 : bR (nI (i % 8) - nI (c % 8)) 0 (wd - 1) = false) : rct c ht wd i = false := by unfold rct; rw [h2, Bool.and_false]
def flr (f : Nat → Int32) (c ht wd : Nat) (g : Int32) (i : Nat) : Nat → Int32 := fun j => if j < i ∧ rct c ht wd j = true then g else f j
theorem flr_0 (f : Nat → Int32) (c ht wd : Nat) (g : Int32) : f = flr f c ht wd g 0 := by funext j; unfold flr; exact (if_neg (fun z => by omega)).symm
theorem flr_at (f : Nat → Int32) (c ht wd : Nat) (g : Int32) (i : Nat) : flr f c ht wd g i i = f i := if_neg (fun z => by omega)
theorem flr_t {f : Nat → Int32} {c ht wd : Nat} {g : Int32} {i : Nat} (h : rct c ht wd i = true) : upd (flr f c ht wd g i) i g = flr f c ht wd g (i + 1) := by
  funext j
  unfold upd flr
  by_cases h1 : j = i
  · subst h1; rw [if_pos rfl, if_pos ⟨by omega, h⟩]
  · rw [if_neg h1]
    by_cases h2 : j < i ∧ rct c ht wd j = true
    · rw [if_pos h2, if_pos ⟨by omega, h2.2⟩]
    · rw [if_neg h2, if_neg (fun z => h2 ⟨by omega, z.2⟩)]
theorem flr_f {f : Nat → Int32} {c ht wd : Nat} {g : Int32} {i : Nat} (h : rct c ht wd i = false) : upd (flr f c ht wd g i) i (flr f c ht wd g i i) = flr f c ht wd g (i + 1) := by
  rw [flr_at]
  funext j
  unfold upd flr
  by_cases h1 : j = i
  · subst h1; rw [if_pos rfl, if_neg (fun z => by rw [h] at z; exact absurd z.2 (by decide))]
  · rw [if_neg h1]
    by_cases h2 : j < i ∧ rct c ht wd j = true
    · rw [if_pos h2, if_pos ⟨by omega, h2.2⟩]
    · rw [if_neg h2, if_neg (fun z => h2 ⟨by omega, z.2⟩)]
def flc (f : Nat → Int32) (c ht wd : Nat) (g : Int32) : Nat → Nat
  | 0 => 0
  | i + 1 => if rct c ht wd i = true ∧ ¬ f i = g then flc f c ht wd g i + 1 else flc f c ht wd g i + 0
theorem flc_t {f : Nat → Int32} {c ht wd : Nat} {g : Int32} {i : Nat} (h : rct c ht wd i = true) (h2 : ¬ flr f c ht wd g i i = g) : flc f c ht wd g i + 1 = flc f c ht wd g (i + 1) := by
  rw [flr_at] at h2; exact (if_pos ⟨h, h2⟩).symm
theorem flc_e {f : Nat → Int32} {c ht wd : Nat} {g : Int32} {i : Nat} (h2 : flr f c ht wd g i i = g) : flc f c ht wd g i + 0 = flc f c ht wd g (i + 1) := by
  rw [flr_at] at h2; exact (if_neg (fun z => z.2 h2)).symm
theorem flc_f {f : Nat → Int32} {c ht wd : Nat} {g : Int32} {i : Nat} (h : rct c ht wd i = false) : flc f c ht wd g i + 0 = flc f c ht wd g (i + 1) :=
  (if_neg (fun z => by rw [h] at z; exact absurd z.1 (by decide))).symm
/-- the least of several, the lowest one -/
def smo (f : Nat → Int32) : Nat → Nat × Int32
  | 0 => (0, nI 0)
  | i + 1 => if i = 0 ∨ f i < (smo f i).2 then (i, f i) else smo f i
theorem smo_t {f : Nat → Int32} {i : Nat} (h : i = 0 ∨ f i < (smo f i).2) : (i, f i) = smo f (i + 1) := (if_pos h).symm
theorem smo_f {f : Nat → Int32} {i : Nat} (h1 : ¬ i = 0) (h2 : ¬ f i < (smo f i).2) : smo f i = smo f (i + 1) := (if_neg (fun z => z.elim h1 h2)).symm
/-- the least threshold, and the last one tried -/
def tf2 (cnt : Nat → Nat) (k : Nat) : Nat → Nat → Int32 × Nat
  | 0, t => (-1, t - 1)
  | n + 1, t => if cnt t ≤ k then (nI t, t) else tf2 cnt k n (t + 1)
theorem tf2_t {cnt : Nat → Nat} {k i : Nat} (hi : i < 256) (h : cnt i ≤ k) : tf2 cnt k (256 - i) i = (nI i, i) := by
  rw [show 256 - i = 256 - (i + 1) + 1 from by omega]; exact if_pos h
theorem tf2_n {cnt : Nat → Nat} {k i : Nat} (hi : i < 256) (h : k < cnt i) : tf2 cnt k (256 - i) i = tf2 cnt k (256 - (i + 1)) (i + 1) := by
  rw [show 256 - i = 256 - (i + 1) + 1 from by omega]; exact if_neg (Nat.not_le.mpr h)
