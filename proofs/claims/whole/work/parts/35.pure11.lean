/-! the pure words, eleventh: filling, and the characters of a long -/
section G11
/-- the rectangle -/
theorem bR_sub {a b h : Nat} (ha : a < 2 ^ 30) (hb : b < 2 ^ 30) (hh : 1 ≤ h) : bR (nI a - nI b) 0 (h - 1) = decide (b ≤ a ∧ a < b + h) := by
  unfold bR
  rw [pk_sub_toInt ha hb]
  by_cases q : b ≤ a ∧ a < b + h
  · rw [decide_eq_true q]; exact decide_eq_true (by omega)
  · rw [decide_eq_false q]; exact decide_eq_false (by omega)
theorem rct_d {c ht wd i : Nat} (hc : c < 64) (hi : i < 64) (h1 : 1 ≤ ht) (h2 : 1 ≤ wd) : rct c ht wd i = decide ((c / 8 ≤ i / 8 ∧ i / 8 < c / 8 + ht) ∧ (c % 8 ≤ i % 8 ∧ i % 8 < c % 8 + wd)) := by
  unfold rct
  rw [bR_sub (by omega) (by omega) h1, bR_sub (by omega) (by omega) h2, ← Bool.decide_and]
theorem mi8_t {a h H : Nat} (e : mi8 (a + h) = a + H) (h8 : a + H ≤ 8) {x : Nat} (hx : x < 8) : x < a + h ↔ x < a + H := by
  unfold mi8 at e
  split at e <;> omega
theorem fill_f {nw : Nat → Int32} {c ht wd H W : Nat} {g : Int32} (hc : c < 64) (h1 : 1 ≤ ht) (h2 : 1 ≤ wd) (hH : mi8 (c / 8 + ht) = c / 8 + H) (hW : mi8 (c % 8 + wd) = c % 8 + W) (hH8 : c / 8 + H ≤ 8) (hW8 : c % 8 + W ≤ 8) {j : Nat} (hj : j < 64) : fcF nw c W g H 0 j = flr nw c ht wd g 64 j := by
  unfold fcF flr
  rw [rct_d hc hj h1 h2]
  have e1 := mi8_t hH hH8 (x := j / 8) (by omega)
  have e2 := mi8_t hW hW8 (x := j % 8) (by omega)
  by_cases q : (c / 8 ≤ j / 8 ∧ j / 8 < c / 8 + ht) ∧ (c % 8 ≤ j % 8 ∧ j % 8 < c % 8 + wd)
  · rw [decide_eq_true q, if_pos ⟨q.1.1, q.2.1, e2.mp q.2.2, Or.inl (e1.mp q.1.2)⟩, if_pos ⟨hj, rfl⟩]
  · rw [decide_eq_false q, if_neg (fun z => q ⟨⟨z.1, e1.mpr (by omega)⟩, z.2.1, e2.mpr z.2.2.1⟩), if_neg (fun z => absurd z.2 Bool.false_ne_true)]
/-- counting, a column of a row -/
theorem flc_row {nw : Nat → Int32} {c ht wd W : Nat} {g : Int32} (hc : c < 64) (h1 : 1 ≤ ht) (h2 : 1 ≤ wd) (hW : mi8 (c % 8 + wd) = c % 8 + W) (hW8 : c % 8 + W ≤ 8) {ρ : Nat} (hρ : ρ < 8) (hin : c / 8 ≤ ρ ∧ ρ < c / 8 + ht) : ∀ κ, κ ≤ 8 → flc nw c ht wd g (8 * ρ + κ) = flc nw c ht wd g (8 * ρ) + fcB nw c g (ρ - c / 8) (if κ ≤ c % 8 then 0 else if κ < c % 8 + W then κ - c % 8 else W)
  | 0, _ => by rw [if_pos (Nat.zero_le _)]; rfl
  | κ + 1, hκ => by
    have ih := flc_row (nw := nw) (ht := ht) (g := g) hc h1 h2 hW hW8 hρ hin κ (by omega)
    have e2 := mi8_t hW hW8 (x := κ) (by omega)
    show (if rct c ht wd (8 * ρ + κ) = true ∧ ¬ nw (8 * ρ + κ) = g then flc nw c ht wd g (8 * ρ + κ) + 1 else flc nw c ht wd g (8 * ρ + κ) + 0) = _
    rw [rct_d hc (by omega) h1 h2, show (8 * ρ + κ) / 8 = ρ from by omega, show (8 * ρ + κ) % 8 = κ from by omega, ih]
    by_cases q : c % 8 ≤ κ ∧ κ < c % 8 + wd
    · have q2 := e2.mp q.2
      have e3 : (if κ ≤ c % 8 then 0 else if κ < c % 8 + W then κ - c % 8 else W) = κ - c % 8 := by split <;> (try split) <;> omega
      have e4 : (if κ + 1 ≤ c % 8 then 0 else if κ + 1 < c % 8 + W then κ + 1 - c % 8 else W) = κ - c % 8 + 1 := by split <;> (try split) <;> omega
      rw [e3, e4]
      show _ = _ + (if nw (8 * (c / 8 + (ρ - c / 8)) + (c % 8 + (κ - c % 8))) = g then fcB nw c g (ρ - c / 8) (κ - c % 8) else fcB nw c g (ρ - c / 8) (κ - c % 8) + 1)
      rw [show 8 * (c / 8 + (ρ - c / 8)) + (c % 8 + (κ - c % 8)) = 8 * ρ + κ from by omega, decide_eq_true (show (c / 8 ≤ ρ ∧ ρ < c / 8 + ht) ∧ c % 8 ≤ κ ∧ κ < c % 8 + wd from ⟨hin, q⟩)]
      by_cases e : nw (8 * ρ + κ) = g
      · rw [if_pos e, if_neg (fun z => z.2 e)]
        omega
      · rw [if_neg e, if_pos ⟨rfl, e⟩]
        omega
    · have e3 : (if κ + 1 ≤ c % 8 then 0 else if κ + 1 < c % 8 + W then κ + 1 - c % 8 else W) = (if κ ≤ c % 8 then 0 else if κ < c % 8 + W then κ - c % 8 else W) := by
        have hw : c % 8 ≤ κ → c % 8 + W ≤ κ := fun z => by
          have : ¬ κ < c % 8 + W := fun y => q ⟨z, e2.mpr y⟩
          omega
        split <;> split <;> (try split) <;> (try split) <;> omega
      rw [e3, decide_eq_false (fun z => q z.2), if_neg (fun z => absurd z.1 Bool.false_ne_true)]
      omega
theorem flc_out {nw : Nat → Int32} {c ht wd : Nat} {g : Int32} (hc : c < 64) (h1 : 1 ≤ ht) (h2 : 1 ≤ wd) {ρ : Nat} (hρ : ρ < 8) (hout : ¬ (c / 8 ≤ ρ ∧ ρ < c / 8 + ht)) : ∀ κ, κ ≤ 8 → flc nw c ht wd g (8 * ρ + κ) = flc nw c ht wd g (8 * ρ)
  | 0, _ => rfl
  | κ + 1, hκ => by
    show (if rct c ht wd (8 * ρ + κ) = true ∧ ¬ nw (8 * ρ + κ) = g then flc nw c ht wd g (8 * ρ + κ) + 1 else flc nw c ht wd g (8 * ρ + κ) + 0) = _
    rw [rct_d hc (by omega) h1 h2, show (8 * ρ + κ) / 8 = ρ from by omega, show (8 * ρ + κ) % 8 = κ from by omega, decide_eq_false (fun z => hout z.1), if_neg (fun z => absurd z.1 Bool.false_ne_true), flc_out hc h1 h2 hρ hout κ (by omega)]
    rfl
theorem fill_c {nw : Nat → Int32} {c ht wd H W : Nat} {g : Int32} (hc : c < 64) (h1 : 1 ≤ ht) (h2 : 1 ≤ wd) (hH : mi8 (c / 8 + ht) = c / 8 + H) (hW : mi8 (c % 8 + wd) = c % 8 + W) (hH8 : c / 8 + H ≤ 8) (hW8 : c % 8 + W ≤ 8) (hW1 : 1 ≤ W) : fcA nw c W g H = flc nw c ht wd g 64 := by
  have go : ∀ ρ, ρ ≤ 8 → flc nw c ht wd g (8 * ρ) = fcA nw c W g (if ρ ≤ c / 8 then 0 else if ρ < c / 8 + H then ρ - c / 8 else H) := by
    intro ρ
    induction ρ with
    | zero => intro _; rw [if_pos (Nat.zero_le _)]; rfl
    | succ ρ ih =>
      intro hρ
      have ih := ih (by omega)
      have e1 := mi8_t hH hH8 (x := ρ) (by omega)
      rw [show 8 * (ρ + 1) = 8 * ρ + 8 from by omega]
      by_cases q : c / 8 ≤ ρ ∧ ρ < c / 8 + ht
      · have q2 := e1.mp q.2
        have e3 : (if ρ ≤ c / 8 then 0 else if ρ < c / 8 + H then ρ - c / 8 else H) = ρ - c / 8 := by split <;> (try split) <;> omega
        have e4 : (if ρ + 1 ≤ c / 8 then 0 else if ρ + 1 < c / 8 + H then ρ + 1 - c / 8 else H) = ρ - c / 8 + 1 := by split <;> (try split) <;> omega
        have e5 : (if 8 ≤ c % 8 then 0 else if 8 < c % 8 + W then 8 - c % 8 else W) = W := by split <;> (try split) <;> omega
        rw [flc_row (W := W) hc h1 h2 hW hW8 (by omega) q 8 (Nat.le_refl _), ih, e3, e4, e5]
        rfl
      · have e3 : (if ρ + 1 ≤ c / 8 then 0 else if ρ + 1 < c / 8 + H then ρ + 1 - c / 8 else H) = (if ρ ≤ c / 8 then 0 else if ρ < c / 8 + H then ρ - c / 8 else H) := by
          have hw : c / 8 ≤ ρ → c / 8 + H ≤ ρ := fun z => by
            have : ¬ ρ < c / 8 + H := fun y => q ⟨z, e1.mpr y⟩
            omega
          split <;> split <;> (try split) <;> (try split) <;> omega
        rw [flc_out hc h1 h2 (by omega) q 8 (Nat.le_refl _), ih, e3]
  have h := go 8 (Nat.le_refl _)
  have e5 : (if 8 ≤ c / 8 then 0 else if 8 < c / 8 + H then 8 - c / 8 else H) = H := by split <;> (try split) <;> omega
  rw [e5] at h
  exact h.symm
theorem mi8_ex {a h : Nat} (ha : a < 8) (h1 : 1 ≤ h) : ∃ H, mi8 (a + h) = a + H ∧ a + H ≤ 8 ∧ 1 ≤ H := by
  unfold mi8
  by_cases q : 8 < a + h
  · exact ⟨8 - a, by rw [if_pos q]; omega, by omega, by omega⟩
  · exact ⟨h, by rw [if_neg q], by omega, h1⟩
theorem rel_fill {nw : Nat → Int32} {r t : Int32} {w : Bool} {c ht wd H W : Nat} {g : Int32} (ho : okA nw) (hs : same nw nw r t w) (hg : bR g 0 255 = true) (hc : c < 64) (h1 : 1 ≤ ht) (h2 : 1 ≤ wd) (hH : mi8 (c / 8 + ht) = c / 8 + H) (hW : mi8 (c % 8 + wd) = c % 8 + W) (hH8 : c / 8 + H ≤ 8) (hW8 : c % 8 + W ≤ 8) : okA (flr nw c ht wd g 64) ∧ same (flr nw c ht wd g 64) (fcF nw c W g H 0) r t w := by
  obtain ⟨a, b⟩ := ok_grey (f' := flr nw c ht wd g 64) ho hs (fun j hj => by unfold flr; split; exact hg; exact ho.1 j hj) (fun j hj => by unfold flr; exact if_neg (fun z => by omega))
  exact ⟨a, same_c b (fun j hj => fill_f hc h1 h2 hH hW hH8 hW8 hj)⟩
/-- the characters -/
theorem i64_lt {x : Int64} {k : Nat} (hx : x.toBitVec.toNat < 256) (hk : k < 256) : (x < Int64.ofNat k ↔ x.toBitVec.toNat < k) ∧ (Int64.ofNat k < x ↔ k < x.toBitVec.toNat) := by
  have e1 : x.toInt = (x.toBitVec.toNat : Int) := by
    show x.toBitVec.toInt = _
    rw [BitVec.toInt_eq_toNat_cond, if_pos (by omega)]
  have e2 : (Int64.ofNat k).toInt = (k : Int) := Int64.toInt_ofNat_of_lt (by omega)
  rw [Int64.lt_iff_toInt_lt, Int64.lt_iff_toInt_lt, e1, e2]
  omega
theorem ch_ok (r : Int64) : ((r &&& 255) < 33 ∨ 126 < (r &&& 255)) ↔ bR (r &&& 255).toInt32 33 126 = false := by
  have h := and255_lt r
  obtain ⟨h1, _⟩ := i64_lt (k := 33) h (by omega)
  obtain ⟨_, h2⟩ := i64_lt (k := 126) h (by omega)
  have h1 : (r &&& 255) < 33 ↔ (r &&& 255).toBitVec.toNat < 33 := h1
  have h2 : 126 < (r &&& 255) ↔ 126 < (r &&& 255).toBitVec.toNat := h2
  rw [h1, h2, lo_nI h, bR_f, nI_toInt (by omega)]
  omega
theorem rcn_false : ∀ m c r, (rcn m c false r).2.1 = false
  | 0, _, _ => rfl
  | m + 1, c, r => by
    unfold rcn
    split
    · rfl
    · exact rcn_false m (c + 1) (shr8 r)
theorem ccf_rcn (c : Nat) (r : Int64) : (∃ k, 1 ≤ k ∧ ccf c r = nI k ∧ (c, true, r) = (k, true, (0 : Int64)) ∧ c ≤ k ∧ k ≤ c) ∨ (ccf c r = -1 ∧ ¬ (true = true ∧ ¬ c = 0 ∧ r = 0)) := by
  unfold ccf
  by_cases q : c = 0 ∨ ¬ r = 0
  · rw [if_pos q]; exact Or.inr ⟨rfl, fun z => q.elim z.2.1 (fun y => y z.2.2)⟩
  · rw [if_neg q]
    have q1 : ¬ c = 0 := fun z => q (Or.inl z)
    have q2 : r = 0 := Decidable.byContradiction (fun z => q (Or.inr z))
    exact Or.inl ⟨c, by omega, rfl, by rw [q2], Nat.le_refl _, Nat.le_refl _⟩
theorem ccn_rcn : ∀ m c r, (∃ k, 1 ≤ k ∧ ccn m c r = nI k ∧ rcn m c true r = (k, true, (0 : Int64)) ∧ c ≤ k ∧ k ≤ c + m) ∨ (ccn m c r = -1 ∧ ¬ ((rcn m c true r).2.1 = true ∧ ¬ (rcn m c true r).1 = 0 ∧ (rcn m c true r).2.2 = 0))
  | 0, c, r => by
    rcases ccf_rcn c r with ⟨k, h1, h2, h3, h4, h5⟩ | h
    · exact Or.inl ⟨k, h1, h2, h3, h4, by omega⟩
    · exact Or.inr h
  | m + 1, c, r => by
    unfold ccn rcn
    by_cases h : r &&& 255 = 0
    · rw [if_pos h, if_pos h]
      rcases ccf_rcn c r with ⟨k, h1, h2, h3, h4, h5⟩ | h
      · exact Or.inl ⟨k, h1, h2, h3, h4, by omega⟩
      · exact Or.inr h
    · rw [if_neg h, if_neg h]
      by_cases hb : (r &&& 255) < 33 ∨ 126 < (r &&& 255)
      · rw [if_pos hb, (ch_ok r).mp hb]
        exact Or.inr ⟨rfl, fun z => by rw [Bool.and_false, rcn_false] at z; exact absurd z.1 Bool.false_ne_true⟩
      · rw [if_neg hb, show bR (r &&& 255).toInt32 33 126 = true from by
          cases q : bR (r &&& 255).toInt32 33 126 with
          | true => rfl
          | false => exact absurd ((ch_ok r).mpr q) hb, Bool.and_true]
        rcases ccn_rcn m (c + 1) (shr8 r) with ⟨k, h1, h2, h3, h4, h5⟩ | h
        · exact Or.inl ⟨k, h1, h2, h3, by omega, by omega⟩
        · exact Or.inr h
theorem shr8_n (r : Int64) : tn (shr8 r) = tn r / 256 := tn_lsr r (k := 8) (by omega)
theorem and255_n (r : Int64) : (r &&& 255).toBitVec.toNat = tn r % 256 := by
  show tn (r &&& 255) = _
  rw [tn_and, show tn 255 = 2 ^ 8 - 1 from rfl, Nat.and_two_pow_sub_one_eq_mod]
theorem ccn_ch : ∀ m c r k, ccn m c r = nI k → c ≤ k → k ≤ c + m → k < 2 ^ 20 → ∀ j, j < k - c → tn r / 256 ^ j % 256 < 127
  | 0, c, r, k, _, h1, h2, _ => fun j hj => by omega
  | m + 1, c, r, k, h, h1, h2, h9 => by
    unfold ccn at h
    by_cases e : r &&& 255 = 0
    · rw [if_pos e] at h
      unfold ccf at h
      split at h
      · exact absurd h.symm (nI_nm1 (by omega))
      · intro j hj
        have := nI_inj (by omega) (by omega) h
        omega
    · rw [if_neg e] at h
      by_cases hb : (r &&& 255) < 33 ∨ 126 < (r &&& 255)
      · rw [if_pos hb] at h; exact absurd h.symm (nI_nm1 (by omega))
      · rw [if_neg hb] at h
        intro j hj
        cases j with
        | zero =>
          have hq : bR (r &&& 255).toInt32 33 126 = true := by
            cases q : bR (r &&& 255).toInt32 33 126 with
            | true => rfl
            | false => exact absurd ((ch_ok r).mpr q) hb
          have h3 := and255_lt r
          rw [lo_nI h3, bR_t, nI_toInt (by omega), and255_n] at hq
          rw [Nat.pow_zero, Nat.div_one]
          omega
        | succ j =>
          by_cases hk : c + 1 ≤ k
          · have := ccn_ch m (c + 1) (shr8 r) k h hk (by omega) h9 j (by omega)
            rw [shr8_n, Nat.div_div_eq_div_mul] at this
            rw [Nat.pow_succ, Nat.mul_comm]
            exact this
          · omega
theorem byN_n (p : Int64) {g : Nat} (hg : g < 8) : byN p g = tn p / 256 ^ g % 256 := by
  unfold byN byL
  rw [and255_n]
  show tn ((p.toUInt64 >>> ((nI (8 * g)).toInt64.toUInt64 &&& Int64.toUInt64 63)).toInt64) % 256 = _
  have h := tn_lsr p (k := 8 * g) (by omega)
  unfold lsr at h
  rw [h, Nat.pow_mul]
theorem apT_lt {T : Nat → Nat} {n k : Nat} {pk : Int64} (hT : ∀ j, T j < 128) (h : ccn 8 0 pk = nI k) (h1 : k ≤ 8) : ∀ j, apT T n pk k 0 j < 128 := by
  intro j
  unfold apT
  split
  · rename_i q
    rw [byN_n pk (by omega)]
    have := ccn_ch 8 0 pk k h (Nat.zero_le _) (by omega) (by omega) (k - 1 - (j - n)) (by omega)
    omega
  · exact hT j
end G11
