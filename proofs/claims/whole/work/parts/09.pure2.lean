/-! the pure words, second: the history and the text -/
def drp (q : Nat → Nat) (o i : Nat) : Nat → Option Nat := fun k => if k + 1 < i then some (q ((k + 1 + o) % 6)) else some (q ((k + o) % 6))
theorem drp_1 (q : Nat → Nat) (o : Nat) : (fun k => some (q ((k + o) % 6))) = drp q o 1 := by funext k; unfold drp; exact (if_neg (by omega)).symm
theorem drp_at (q : Nat → Nat) (o i : Nat) : drp q o i i = some (q ((i + o) % 6)) := by unfold drp; exact if_neg (by omega)
theorem drp_step (q : Nat → Nat) (o i : Nat) (h : 1 ≤ i) : va_up (drp q o i) (i - 1) (some (q ((i + o) % 6))) = drp q o (i + 1) := by
  funext k
  unfold va_up drp
  by_cases h1 : k = i - 1
  · subst h1
    rw [if_pos rfl, if_pos (by omega), show i - 1 + 1 + o = i + o from by omega]
  · rw [if_neg h1]
    by_cases h2 : k + 1 < i
    · rw [if_pos h2, if_pos (by omega)]
    · rw [if_neg h2, if_neg (by omega)]
theorem drp_end (q : Nat → Nat) (o : Nat) : ∀ k, k < 6 → va_up (drp q o 6) 5 (some (q ((0 + o) % 6))) k = some (q ((k + (o + 1)) % 6)) := by
  intro k hk
  unfold va_up drp
  by_cases h1 : k = 5
  · subst h1; rw [if_pos rfl, show (0 + o) % 6 = (5 + (o + 1)) % 6 from by omega]
  · rw [if_neg h1, if_pos (by omega), show k + 1 + o = k + (o + 1) from by omega]
def kN (n : Nat) : Nat := if n = 6 then 6 else n + 1
def kO (n o : Nat) : Nat := if n = 6 then o + 1 else o
def pset {α : Type} (F : Nat → α) (j : Nat) (x : α) : Nat → α := fun i => if i = j then x else F i
/-- the text: what a code awaits next -/
def dgI (ch next : Nat) : Int32 := if bR (nI ch) 48 57 = true then nI next else -1
def cmI (ch : Nat) : Int32 := if ch = 103 then nI 1 else if ch = 116 then nI 5 else if ch = 114 then nI 8 else if ch = 105 ∨ ch = 119 then nI 9 else -1
def nuI (ch e s : Nat) : Int32 := if ch = 48 then nI e else dgI ch s
def awI (a ch : Nat) : Int32 := match a with
  | 0 => cmI ch
  | 1 => nuI ch 4 2
  | 2 => if ch = 61 then nI 5 else dgI ch 3
  | 3 => if ch = 61 then nI 5 else dgI ch 4
  | 4 => if ch = 61 then nI 5 else -1
  | 5 => nuI ch 9 6
  | 6 => if ch = 59 then nI 0 else dgI ch 7
  | 7 => if ch = 59 then nI 0 else dgI ch 9
  | 8 => dgI ch 9
  | _ => if ch = 59 then nI 0 else -1
theorem awI_f : ∀ a, a < 10 → ∀ ch, ch < 128 → awI a ch = -1 ∨ ((awI a ch).toNatClampNeg < 10 ∧ awI a ch = nI (awI a ch).toNatClampNeg) := by decide +kernel
def aw (a ch : Nat) : Nat := (awI a ch).toNatClampNeg
theorem awI_nat {a ch : Nat} (ha : a < 10) (hc : ch < 128) (h : ¬ awI a ch = -1) : aw a ch < 10 ∧ awI a ch = nI (aw a ch) := by
  rcases awI_f a ha ch hc with q | q
  · exact absurd q h
  · exact q
/-- the first error: k characters are left, i have been read, a is awaited -/
def ferr (T : Nat → Nat) : Nat → Nat → Nat → Int32
  | 0, a, i => if a = 9 ∨ a = 6 ∨ a = 7 then -1 else nI i
  | k + 1, a, i => if awI a (T i) = -1 then nI i else ferr T k (aw a (T i)) (i + 1)
theorem ferr_t {T : Nat → Nat} {k a i : Nat} (h : awI a (T i) = -1) : ferr T (k + 1) a i = nI i := if_pos h
theorem ferr_n {T : Nat → Nat} {k a i : Nat} (h : ¬ awI a (T i) = -1) : ferr T (k + 1) a i = ferr T k (aw a (T i)) (i + 1) := if_neg h
def chr (T : Nat → Nat) (n i : Nat) : Nat := if i < n then T i else 32
def bgc (T : Nat → Nat) (n i : Nat) : Bool := decide (i = 0 ∨ chr T n (i - 1) = 59)
/-- the first place from i on with the code ch -/
def fnd (T : Nat → Nat) (n ch : Nat) : Nat → Nat → Nat
  | 0, i => i
  | k + 1, i => if i < n ∧ ¬ T i = ch then fnd T n ch k (i + 1) else i
theorem fnd_stop {T : Nat → Nat} {n ch k i : Nat} (h : ¬ (i < n ∧ ¬ T i = ch)) : fnd T n ch k i = i := by
  cases k with
  | zero => rfl
  | succ k => exact if_neg h
theorem fnd_go {T : Nat → Nat} {n ch i : Nat} (h1 : i < n) (h2 : ¬ T i = ch) : fnd T n ch (n - i) i = fnd T n ch (n - (i + 1)) (i + 1) := by
  rw [show n - i = n - (i + 1) + 1 from by omega]
  exact if_pos ⟨h1, h2⟩
/-- the number whose digits begin at i -/
def nmb (T : Nat → Nat) (n : Nat) : Nat → Nat → Nat → Nat
  | 0, _, v => v
  | k + 1, i, v => if i < n ∧ bR (nI (T i)) 48 57 = true then nmb T n k (i + 1) (10 * v + (T i - 48)) else v
theorem nmb_stop {T : Nat → Nat} {n k i v : Nat} (h : ¬ (i < n ∧ bR (nI (T i)) 48 57 = true)) : nmb T n k i v = v := by
  cases k with
  | zero => rfl
  | succ k => exact if_neg h
theorem nmb_go {T : Nat → Nat} {n i v : Nat} (h1 : i < n) (h2 : bR (nI (T i)) 48 57 = true) : nmb T n (n - i) i v = nmb T n (n - (i + 1)) (i + 1) (10 * v + (T i - 48)) := by
  rw [show n - i = n - (i + 1) + 1 from by omega]
  exact if_pos ⟨h1, h2⟩
/-- a group of 8 bits of a long -/
def byL (p : Int64) (g : Nat) : Int64 := (p.toUInt64 >>> ((nI (8 * g)).toInt64.toUInt64 &&& Int64.toUInt64 63)).toInt64 &&& 255
def byN (p : Int64) (g : Nat) : Nat := (byL p g).toBitVec.toNat
theorem and255_lt (x : Int64) : (x &&& 255).toBitVec.toNat < 256 := by
  rw [Int64.toBitVec_and, BitVec.toNat_and]
  exact Nat.lt_of_le_of_lt Nat.and_le_right (by decide)
theorem byN_lt (p : Int64) (g : Nat) : byN p g < 256 := and255_lt _
theorem lo_nI {x : Int64} (h : x.toBitVec.toNat < 256) : x.toInt32 = nI x.toBitVec.toNat := by
  apply Int32.toBitVec_inj.mp
  apply BitVec.eq_of_toNat_eq
  rw [pk_tn (by omega)]
  show (x.toBitVec.signExtend 32).toNat = _
  rw [BitVec.signExtend_eq_setWidth_of_le _ (by omega), BitVec.toNat_setWidth]
  omega
theorem char_nI {n : Nat} (h : n < 65536) : ((nI n).toUInt32 % 65536).toInt32 = nI n := by
  rw [pk_char, pk_tn (by omega), Nat.mod_eq_of_lt h]
theorem nar_nI {n : Nat} (h : n < 65536) : vp_nar .char (nI n) = nI n := by
  unfold vp_nar; rw [(pk_charN h).1]
/-- k characters out of a long, from the place n on -/
def apT (T : Nat → Nat) (n : Nat) (p : Int64) (k : Nat) : Nat → Nat → Nat := fun t j => if n ≤ j ∧ j < n + (k - t) then byN p (k - 1 - (j - n)) else T j
theorem gmax0 {i : Nat} (h : i < 2 ^ 31) : (if nI i < nI 0 then nI 0 else nI i) = nI i := if_neg (nI_nlt (Nat.zero_le i) h)
theorem bR_N {t a b : Nat} (ht : t < 2 ^ 31) (h : bR (nI t) a b = true) : a ≤ t ∧ t ≤ b := by have h2 := bR_t.mp h; rw [nI_toInt ht] at h2; omega
theorem lg_lt {x y : Int64} (h : lg_cmp x y < 0) : x < y := by
  unfold lg_cmp at h
  split at h
  · exact absurd h (by decide)
  · split at h
    · exact absurd h (by decide)
    · rename_i h1 h2
      rcases Int64.lt_or_le x y with q | q
      · exact q
      · exact absurd (Int64.le_antisymm (Int64.not_lt.mp h1) q) h2
theorem lg_nlt {x y : Int64} (h : ¬ lg_cmp x y < 0) : ¬ x < y := by
  intro q
  apply h
  unfold lg_cmp
  rw [if_neg (show ¬ x > y from Int64.lt_asymm q), if_neg (Int64.ne_of_lt q)]
  decide
theorem lg_le {x y : Int64} (h : lg_cmp x y ≤ 0) : ¬ y < x := by
  intro q
  unfold lg_cmp at h
  rw [if_pos (show x > y from q)] at h
  exact absurd h (by decide)
theorem lg_nle {x y : Int64} (h : ¬ lg_cmp x y ≤ 0) : y < x := by
  unfold lg_cmp at h
  split at h
  · assumption
  · split at h
    · exact absurd (by decide) h
    · exact absurd (by decide) h
/-- how many characters a long holds; -1 if it holds none or anything else -/
def ccf (c : Nat) (r : Int64) : Int32 := if c = 0 ∨ ¬ r = 0 then -1 else nI c
def shr8 (r : Int64) : Int64 := (r.toUInt64 >>> ((nI 8).toInt64.toUInt64 &&& Int64.toUInt64 63)).toInt64
def ccn : Nat → Nat → Int64 → Int32
  | 0, c, r => ccf c r
  | k + 1, c, r => if r &&& 255 = 0 then ccf c r else if (r &&& 255) < 33 ∨ 126 < (r &&& 255) then -1 else ccn k (c + 1) (shr8 r)
theorem ccn_0 {k c : Nat} {r : Int64} (h : r &&& 255 = 0) : ccn k c r = ccf c r := by cases k; rfl; exact if_pos h
theorem ccn_b {k c : Nat} {r : Int64} (h : ¬ r &&& 255 = 0) (hb : (r &&& 255) < 33 ∨ 126 < (r &&& 255)) (hk : 0 < k) : ccn k c r = -1 := by
  cases k with
  | zero => omega
  | succ k => exact (if_neg h).trans (if_pos hb)
theorem ccn_s {c : Nat} {r : Int64} (hc : c < 8) (h : ¬ r &&& 255 = 0) (h1 : ¬ (r &&& 255) < 33) (h2 : ¬ 126 < (r &&& 255)) : ccn (8 - c) c r = ccn (8 - (c + 1)) (c + 1) (shr8 r) := by
  rw [show 8 - c = 8 - (c + 1) + 1 from by omega]
  exact (if_neg h).trans (if_neg (fun z => z.elim h1 h2))
theorem cast_byte (p : Int64) (g : Nat) : vp_nar .char ((((p.toUInt64 >>> ((nI (8 * g)).toInt64.toUInt64 &&& Int64.toUInt64 63)).toInt64 &&& 255).toInt32.toUInt32 % 65536).toInt32) = nI (byN p g) := by
  show vp_nar .char (((byL p g).toInt32.toUInt32 % 65536).toInt32) = _
  have h := byN_lt p g
  rw [lo_nI (x := byL p g) h]
  show vp_nar .char (((nI (byN p g)).toUInt32 % 65536).toInt32) = _
  rw [char_nI (by omega), nar_nI (by omega)]
theorem apT_0 (T : Nat → Nat) (n : Nat) (p : Int64) (k : Nat) : apT T n p k k = T := by funext j; unfold apT; exact if_neg (by omega)
theorem apT_s (T : Nat → Nat) (n : Nat) (p : Int64) (k t : Nat) (h : t + 1 ≤ k) : upd (fun j => nI (apT T n p k (t + 1) j)) (n + (k - (t + 1))) (nI (byN p t)) = fun j => nI (apT T n p k t j) := by
  funext j
  unfold upd apT
  by_cases h1 : j = n + (k - (t + 1))
  · subst h1
    rw [if_pos rfl, if_pos (by omega), show k - 1 - (n + (k - (t + 1)) - n) = t from by omega]
  · rw [if_neg h1]
    show nI (if n ≤ j ∧ j < n + (k - (t + 1)) then byN p (k - 1 - (j - n)) else T j) = _
    by_cases h2 : n ≤ j ∧ j < n + (k - (t + 1))
    · rw [if_pos h2, if_pos (by omega)]
    · rw [if_neg h2, if_neg (by omega)]
theorem dec1 (x : Int32) : x + Int32.ofInt (-1) = x - 1 := by rw [Int32.sub_eq_add_neg]; rfl
theorem tz_0 {t : Nat} (h : t < 2 ^ 30) (z : (nI t - 1).toInt < 0) : t = 0 := by
  have h2 := pk_sub_toInt (a := t) (b := 1) h (by omega)
  have h3 : (nI t - 1).toInt = (t : Int) - 1 := h2
  omega
theorem tz_s {t : Nat} (h : t < 2 ^ 30) (z : 0 ≤ (nI t - 1).toInt) : ∃ z, t = z + 1 := by
  have h2 := pk_sub_toInt (a := t) (b := 1) h (by omega)
  have h3 : (nI t - 1).toInt = (t : Int) - 1 := h2
  exact ⟨t - 1, by omega⟩
theorem lk_a0 : ∀ ch : Nat, ch < 128 → (ch = 103 ∨ ch = 105 ∨ ch = 114 ∨ ch = 116 ∨ ch = 119) ∨ Op.lookupswitch.offset [(103, 51), (105, 58), (114, 55), (116, 53), (119, 58)] 61 (Int.ofNat ch) = 61 := by decide +kernel
theorem lk_a (ch : Nat) (h : ch < 128) (h1 : ¬ ch = 103) (h2 : ¬ ch = 105) (h3 : ¬ ch = 114) (h4 : ¬ ch = 116) (h5 : ¬ ch = 119) : Op.lookupswitch.offset [(103, 51), (105, 58), (114, 55), (116, 53), (119, 58)] 61 (ch : Int) = 61 := by
  rcases lk_a0 ch h with q | q
  · omega
  · exact q
