/-! the pure words, tenth: counting bits -/
section G10
def tn (x : Int64) : Nat := x.toBitVec.toNat
theorem tn_lt (x : Int64) : tn x < 2 ^ 64 := x.toBitVec.isLt
theorem tn_and (x y : Int64) : tn (x &&& y) = tn x &&& tn y := by unfold tn; rw [Int64.toBitVec_and, BitVec.toNat_and]
theorem tn_add (x y : Int64) : tn (x + y) = (tn x + tn y) % 2 ^ 64 := by unfold tn; rw [Int64.toBitVec_add, BitVec.toNat_add]
theorem tn_sub (x y : Int64) : tn (x - y) = (2 ^ 64 - tn y + tn x) % 2 ^ 64 := by unfold tn; rw [Int64.toBitVec_sub, BitVec.toNat_sub]
theorem tn_lsr (x : Int64) {k : Nat} (hk : k < 64) : tn (lsr x k) = tn x / 2 ^ k := by
  unfold tn lsr
  rw [lsr_bv x hk, BitVec.toNat_ushiftRight, Nat.shiftRight_eq_div_pow]
/-- eight bytes -/
def by8 (a0 a1 a2 a3 a4 a5 a6 a7 : Nat) : Nat := a0 + 256 * (a1 + 256 * (a2 + 256 * (a3 + 256 * (a4 + 256 * (a5 + 256 * (a6 + 256 * a7))))))
theorem and_cat {a m A M : Nat} (ha : a < 256) (hm : m < 256) : (a + 256 * A) &&& (m + 256 * M) = (a &&& m) + 256 * (A &&& M) := by
  have h1 : ((a + 256 * A) &&& (m + 256 * M)) % 2 ^ 8 = a &&& m := by
    rw [Nat.and_mod_two_pow]
    rw [show (a + 256 * A) % 2 ^ 8 = a from by omega, show (m + 256 * M) % 2 ^ 8 = m from by omega]
  have h2 : ((a + 256 * A) &&& (m + 256 * M)) / 2 ^ 8 = A &&& M := by
    rw [Nat.and_div_two_pow]
    rw [show (a + 256 * A) / 2 ^ 8 = A from by omega, show (m + 256 * M) / 2 ^ 8 = M from by omega]
  omega
theorem and_by8 {a0 a1 a2 a3 a4 a5 a6 a7 m : Nat} (h0 : a0 < 256) (h1 : a1 < 256) (h2 : a2 < 256) (h3 : a3 < 256) (h4 : a4 < 256) (h5 : a5 < 256) (h6 : a6 < 256) (h7 : a7 < 256) (hm : m < 256) : by8 a0 a1 a2 a3 a4 a5 a6 a7 &&& by8 m m m m m m m m = by8 (a0 &&& m) (a1 &&& m) (a2 &&& m) (a3 &&& m) (a4 &&& m) (a5 &&& m) (a6 &&& m) (a7 &&& m) := by
  unfold by8
  rw [and_cat h0 hm, and_cat h1 hm, and_cat h2 hm, and_cat h3 hm, and_cat h4 hm, and_cat h5 hm, and_cat h6 hm]
theorem to_by8 {n : Nat} (h : n < 2 ^ 64) : ∃ a0 a1 a2 a3 a4 a5 a6 a7 : Nat, a0 < 256 ∧ a1 < 256 ∧ a2 < 256 ∧ a3 < 256 ∧ a4 < 256 ∧ a5 < 256 ∧ a6 < 256 ∧ a7 < 256 ∧ n = by8 a0 a1 a2 a3 a4 a5 a6 a7 := by
  refine ⟨n % 256, n / 256 % 256, n / 256 / 256 % 256, n / 256 / 256 / 256 % 256, n / 256 / 256 / 256 / 256 % 256, n / 256 / 256 / 256 / 256 / 256 % 256, n / 256 / 256 / 256 / 256 / 256 / 256 % 256, n / 256 / 256 / 256 / 256 / 256 / 256 / 256, ?_, ?_, ?_, ?_, ?_, ?_, ?_, ?_, ?_⟩
  iterate 8 omega
  unfold by8
  omega
/-- what one byte becomes -/
def p1 (b : Nat) : Nat := b - (b / 2 &&& 85)
def p2 (b : Nat) : Nat := (p1 b &&& 51) + (p1 b / 4 &&& 51)
def p3 (b : Nat) : Nat := (p2 b + p2 b / 16) % 16
theorem p_a : ∀ b, b < 256 → ∀ t, t < 2 → (b / 2 + 128 * t) &&& 85 = b / 2 &&& 85 := by decide +kernel
theorem p_b : ∀ b, b < 256 → (b / 2 &&& 85) ≤ b ∧ p1 b < 256 := by decide +kernel
theorem p_c : ∀ b, b < 256 → ∀ t, t < 4 → (p1 b / 4 + 64 * t) &&& 51 = p1 b / 4 &&& 51 := by decide +kernel
theorem p_d : ∀ b, b < 256 → p2 b ≤ 68 ∧ p2 b % 16 ≤ 4 ∧ p3 b ≤ 8 := by decide +kernel
theorem p_e : ∀ b, b < 256 → ∀ t, t < 5 → (p2 b + p2 b / 16 + 16 * t) &&& 15 = p3 b := by decide +kernel
theorem p_f : ∀ b, b < 256 → p3 b = b % 2 + b / 2 % 2 + b / 4 % 2 + b / 8 % 2 + b / 16 % 2 + b / 32 % 2 + b / 64 % 2 + b / 128 % 2 := by decide +kernel
theorem by8_lt {a0 a1 a2 a3 a4 a5 a6 a7 : Nat} (h0 : a0 < 256) (h1 : a1 < 256) (h2 : a2 < 256) (h3 : a3 < 256) (h4 : a4 < 256) (h5 : a5 < 256) (h6 : a6 < 256) (h7 : a7 < 256) : by8 a0 a1 a2 a3 a4 a5 a6 a7 < 2 ^ 64 := by unfold by8; omega
theorem by8_d2 {a0 a1 a2 a3 a4 a5 a6 a7 : Nat} (h0 : a0 < 256) (h1 : a1 < 256) (h2 : a2 < 256) (h3 : a3 < 256) (h4 : a4 < 256) (h5 : a5 < 256) (h6 : a6 < 256) (h7 : a7 < 256) : by8 a0 a1 a2 a3 a4 a5 a6 a7 / 2 = by8 (a0 / 2 + 128 * (a1 % 2)) (a1 / 2 + 128 * (a2 % 2)) (a2 / 2 + 128 * (a3 % 2)) (a3 / 2 + 128 * (a4 % 2)) (a4 / 2 + 128 * (a5 % 2)) (a5 / 2 + 128 * (a6 % 2)) (a6 / 2 + 128 * (a7 % 2)) (a7 / 2 + 128 * 0) := by unfold by8; omega
theorem by8_d4 {a0 a1 a2 a3 a4 a5 a6 a7 : Nat} (h0 : a0 < 256) (h1 : a1 < 256) (h2 : a2 < 256) (h3 : a3 < 256) (h4 : a4 < 256) (h5 : a5 < 256) (h6 : a6 < 256) (h7 : a7 < 256) : by8 a0 a1 a2 a3 a4 a5 a6 a7 / 4 = by8 (a0 / 4 + 64 * (a1 % 4)) (a1 / 4 + 64 * (a2 % 4)) (a2 / 4 + 64 * (a3 % 4)) (a3 / 4 + 64 * (a4 % 4)) (a4 / 4 + 64 * (a5 % 4)) (a5 / 4 + 64 * (a6 % 4)) (a6 / 4 + 64 * (a7 % 4)) (a7 / 4 + 64 * 0) := by unfold by8; omega
theorem by8_d16 {a0 a1 a2 a3 a4 a5 a6 a7 : Nat} (h0 : a0 < 256) (h1 : a1 < 256) (h2 : a2 < 256) (h3 : a3 < 256) (h4 : a4 < 256) (h5 : a5 < 256) (h6 : a6 < 256) (h7 : a7 < 256) : by8 a0 a1 a2 a3 a4 a5 a6 a7 / 16 = by8 (a0 / 16 + 16 * (a1 % 16)) (a1 / 16 + 16 * (a2 % 16)) (a2 / 16 + 16 * (a3 % 16)) (a3 / 16 + 16 * (a4 % 16)) (a4 / 16 + 16 * (a5 % 16)) (a5 / 16 + 16 * (a6 % 16)) (a6 / 16 + 16 * (a7 % 16)) (a7 / 16 + 16 * 0) := by unfold by8; omega
theorem by8_e2 {a0 a1 a2 a3 a4 a5 a6 a7 : Nat} (h0 : a0 < 256) (h1 : a1 < 256) (h2 : a2 < 256) (h3 : a3 < 256) (h4 : a4 < 256) (h5 : a5 < 256) (h6 : a6 < 256) (h7 : a7 < 256) : by8 a0 a1 a2 a3 a4 a5 a6 a7 / 65536 = by8 a2 a3 a4 a5 a6 a7 0 0 := by unfold by8; omega
theorem by8_e4 {a0 a1 a2 a3 a4 a5 a6 a7 : Nat} (h0 : a0 < 256) (h1 : a1 < 256) (h2 : a2 < 256) (h3 : a3 < 256) (h4 : a4 < 256) (h5 : a5 < 256) (h6 : a6 < 256) (h7 : a7 < 256) : by8 a0 a1 a2 a3 a4 a5 a6 a7 / 4294967296 = by8 a4 a5 a6 a7 0 0 0 0 := by unfold by8; omega
theorem bc1_n {x : Int64} {a0 a1 a2 a3 a4 a5 a6 a7 : Nat} (h0 : a0 < 256) (h1 : a1 < 256) (h2 : a2 < 256) (h3 : a3 < 256) (h4 : a4 < 256) (h5 : a5 < 256) (h6 : a6 < 256) (h7 : a7 < 256) (hx : tn x = by8 a0 a1 a2 a3 a4 a5 a6 a7) : tn (bc1 x) = by8 (p1 a0) (p1 a1) (p1 a2) (p1 a3) (p1 a4) (p1 a5) (p1 a6) (p1 a7) := by
  unfold bc1
  have hm : tn (6148914691236517205 : Int64) = by8 85 85 85 85 85 85 85 85 := by decide +kernel
  rw [tn_sub, tn_and, tn_lsr x (by omega), hx, hm, by8_d2 h0 h1 h2 h3 h4 h5 h6 h7, and_by8 (by omega) (by omega) (by omega) (by omega) (by omega) (by omega) (by omega) (by omega) (by omega)]
  rw [p_a a0 h0 _ (by omega), p_a a1 h1 _ (by omega), p_a a2 h2 _ (by omega), p_a a3 h3 _ (by omega), p_a a4 h4 _ (by omega), p_a a5 h5 _ (by omega), p_a a6 h6 _ (by omega), p_a a7 h7 _ (by omega)]
  have q0 := (p_b a0 h0).1; have q1 := (p_b a1 h1).1; have q2 := (p_b a2 h2).1; have q3 := (p_b a3 h3).1
  have q4 := (p_b a4 h4).1; have q5 := (p_b a5 h5).1; have q6 := (p_b a6 h6).1; have q7 := (p_b a7 h7).1
  unfold p1
  generalize (a0 / 2 &&& 85) = c0 at *; generalize (a1 / 2 &&& 85) = c1 at *; generalize (a2 / 2 &&& 85) = c2 at *; generalize (a3 / 2 &&& 85) = c3 at *
  generalize (a4 / 2 &&& 85) = c4 at *; generalize (a5 / 2 &&& 85) = c5 at *; generalize (a6 / 2 &&& 85) = c6 at *; generalize (a7 / 2 &&& 85) = c7 at *
  unfold by8
  omega
theorem bc2_n {x : Int64} {a0 a1 a2 a3 a4 a5 a6 a7 : Nat} (h0 : a0 < 256) (h1 : a1 < 256) (h2 : a2 < 256) (h3 : a3 < 256) (h4 : a4 < 256) (h5 : a5 < 256) (h6 : a6 < 256) (h7 : a7 < 256) (hx : tn x = by8 (p1 a0) (p1 a1) (p1 a2) (p1 a3) (p1 a4) (p1 a5) (p1 a6) (p1 a7)) : tn (bc2 x) = by8 (p2 a0) (p2 a1) (p2 a2) (p2 a3) (p2 a4) (p2 a5) (p2 a6) (p2 a7) := by
  unfold bc2
  have hm : tn (3689348814741910323 : Int64) = by8 51 51 51 51 51 51 51 51 := by decide +kernel
  have q0 := (p_b a0 h0).2; have q1 := (p_b a1 h1).2; have q2 := (p_b a2 h2).2; have q3 := (p_b a3 h3).2
  have q4 := (p_b a4 h4).2; have q5 := (p_b a5 h5).2; have q6 := (p_b a6 h6).2; have q7 := (p_b a7 h7).2
  rw [tn_add, tn_and, tn_and, tn_lsr x (by omega), hx, hm, show (2 : Nat) ^ 2 = 4 from rfl, by8_d4 q0 q1 q2 q3 q4 q5 q6 q7, and_by8 q0 q1 q2 q3 q4 q5 q6 q7 (by omega), and_by8 (by omega) (by omega) (by omega) (by omega) (by omega) (by omega) (by omega) (by omega) (by omega)]
  rw [p_c a0 h0 _ (by omega), p_c a1 h1 _ (by omega), p_c a2 h2 _ (by omega), p_c a3 h3 _ (by omega), p_c a4 h4 _ (by omega), p_c a5 h5 _ (by omega), p_c a6 h6 _ (by omega), p_c a7 h7 _ (by omega)]
  have e0 := (p_d a0 h0).1; have e1 := (p_d a1 h1).1; have e2 := (p_d a2 h2).1; have e3 := (p_d a3 h3).1
  have e4 := (p_d a4 h4).1; have e5 := (p_d a5 h5).1; have e6 := (p_d a6 h6).1; have e7 := (p_d a7 h7).1
  unfold p2 at *
  generalize (p1 a0 &&& 51) = c0 at *; generalize (p1 a1 &&& 51) = c1 at *; generalize (p1 a2 &&& 51) = c2 at *; generalize (p1 a3 &&& 51) = c3 at *
  generalize (p1 a4 &&& 51) = c4 at *; generalize (p1 a5 &&& 51) = c5 at *; generalize (p1 a6 &&& 51) = c6 at *; generalize (p1 a7 &&& 51) = c7 at *
  generalize (p1 a0 / 4 &&& 51) = d0 at *; generalize (p1 a1 / 4 &&& 51) = d1 at *; generalize (p1 a2 / 4 &&& 51) = d2 at *; generalize (p1 a3 / 4 &&& 51) = d3 at *
  generalize (p1 a4 / 4 &&& 51) = d4 at *; generalize (p1 a5 / 4 &&& 51) = d5 at *; generalize (p1 a6 / 4 &&& 51) = d6 at *; generalize (p1 a7 / 4 &&& 51) = d7 at *
  unfold by8
  omega
theorem bc3_n {x : Int64} {a0 a1 a2 a3 a4 a5 a6 a7 : Nat} (h0 : a0 < 256) (h1 : a1 < 256) (h2 : a2 < 256) (h3 : a3 < 256) (h4 : a4 < 256) (h5 : a5 < 256) (h6 : a6 < 256) (h7 : a7 < 256) (hx : tn x = by8 (p2 a0) (p2 a1) (p2 a2) (p2 a3) (p2 a4) (p2 a5) (p2 a6) (p2 a7)) : tn (bc3 x) = by8 (p3 a0) (p3 a1) (p3 a2) (p3 a3) (p3 a4) (p3 a5) (p3 a6) (p3 a7) := by
  unfold bc3
  have hm : tn (1085102592571150095 : Int64) = by8 15 15 15 15 15 15 15 15 := by decide +kernel
  have e0 := p_d a0 h0; have e1 := p_d a1 h1; have e2 := p_d a2 h2; have e3 := p_d a3 h3
  have e4 := p_d a4 h4; have e5 := p_d a5 h5; have e6 := p_d a6 h6; have e7 := p_d a7 h7
  have hs : (tn x + tn x / 2 ^ 4) % 2 ^ 64 = by8 (p2 a0 + p2 a0 / 16 + 16 * (p2 a1 % 16)) (p2 a1 + p2 a1 / 16 + 16 * (p2 a2 % 16)) (p2 a2 + p2 a2 / 16 + 16 * (p2 a3 % 16)) (p2 a3 + p2 a3 / 16 + 16 * (p2 a4 % 16)) (p2 a4 + p2 a4 / 16 + 16 * (p2 a5 % 16)) (p2 a5 + p2 a5 / 16 + 16 * (p2 a6 % 16)) (p2 a6 + p2 a6 / 16 + 16 * (p2 a7 % 16)) (p2 a7 + p2 a7 / 16 + 16 * 0) := by
    rw [hx, show (2 : Nat) ^ 4 = 16 from rfl, by8_d16 (by omega) (by omega) (by omega) (by omega) (by omega) (by omega) (by omega) (by omega)]
    generalize p2 a0 = c0 at *; generalize p2 a1 = c1 at *; generalize p2 a2 = c2 at *; generalize p2 a3 = c3 at *
    generalize p2 a4 = c4 at *; generalize p2 a5 = c5 at *; generalize p2 a6 = c6 at *; generalize p2 a7 = c7 at *
    unfold by8
    omega
  rw [tn_and, tn_add, tn_lsr x (by omega), hs, hm, and_by8 (by omega) (by omega) (by omega) (by omega) (by omega) (by omega) (by omega) (by omega) (by omega)]
  rw [p_e a0 h0 _ (by omega), p_e a1 h1 _ (by omega), p_e a2 h2 _ (by omega), p_e a3 h3 _ (by omega), p_e a4 h4 _ (by omega), p_e a5 h5 _ (by omega), p_e a6 h6 _ (by omega), p_e a7 h7 _ (by omega)]
theorem bcI_8 {x : Int64} {a0 a1 a2 a3 a4 a5 a6 a7 : Nat} (h0 : a0 < 256) (h1 : a1 < 256) (h2 : a2 < 256) (h3 : a3 < 256) (h4 : a4 < 256) (h5 : a5 < 256) (h6 : a6 < 256) (h7 : a7 < 256) (hx : tn x = by8 a0 a1 a2 a3 a4 a5 a6 a7) : bcI x = nI (p3 a0 + p3 a1 + p3 a2 + p3 a3 + p3 a4 + p3 a5 + p3 a6 + p3 a7) := by
  have hy := bc3_n (x := bc2 (bc1 x)) h0 h1 h2 h3 h4 h5 h6 h7 (bc2_n h0 h1 h2 h3 h4 h5 h6 h7 (bc1_n h0 h1 h2 h3 h4 h5 h6 h7 hx))
  have e0 := (p_d a0 h0).2.2; have e1 := (p_d a1 h1).2.2; have e2 := (p_d a2 h2).2.2; have e3 := (p_d a3 h3).2.2
  have e4 := (p_d a4 h4).2.2; have e5 := (p_d a5 h5).2.2; have e6 := (p_d a6 h6).2.2; have e7 := (p_d a7 h7).2.2
  unfold bcI
  generalize bc3 (bc2 (bc1 x)) = y at *
  generalize p3 a0 = c0 at *; generalize p3 a1 = c1 at *; generalize p3 a2 = c2 at *; generalize p3 a3 = c3 at *
  generalize p3 a4 = c4 at *; generalize p3 a5 = c5 at *; generalize p3 a6 = c6 at *; generalize p3 a7 = c7 at *
  have s1 : tn (bc4 y 8) = by8 (c0 + c1) (c1 + c2) (c2 + c3) (c3 + c4) (c4 + c5) (c5 + c6) (c6 + c7) c7 := by
    unfold bc4; rw [tn_add, tn_lsr y (by omega), hy]; unfold by8; omega
  generalize bc4 y 8 = y1 at *
  have s2 : tn (bc4 y1 16) = by8 (c0 + c1 + c2 + c3) (c1 + c2 + c3 + c4) (c2 + c3 + c4 + c5) (c3 + c4 + c5 + c6) (c4 + c5 + c6 + c7) (c5 + c6 + c7) (c6 + c7) c7 := by
    unfold bc4; rw [tn_add, tn_lsr y1 (by omega), s1, show (2 : Nat) ^ 16 = 65536 from rfl, by8_e2 (by omega) (by omega) (by omega) (by omega) (by omega) (by omega) (by omega) (by omega)]; unfold by8; omega
  generalize bc4 y1 16 = y2 at *
  have s3 : tn (bc4 y2 32) % 128 = c0 + c1 + c2 + c3 + c4 + c5 + c6 + c7 := by
    unfold bc4; rw [tn_add, tn_lsr y2 (by omega), s2, show (2 : Nat) ^ 32 = 4294967296 from rfl, by8_e4 (by omega) (by omega) (by omega) (by omega) (by omega) (by omega) (by omega) (by omega)]; unfold by8; omega
  generalize bc4 y2 32 = y3 at *
  apply Int32.toBitVec_inj.mp
  apply BitVec.eq_of_toNat_eq
  rw [Int32.toBitVec_and, BitVec.toNat_and, pk_tn (by omega), pk_tn (by omega)]
  show (y3.toBitVec.signExtend 32).toNat &&& (2 ^ 7 - 1) = _
  rw [BitVec.signExtend_eq_setWidth_of_le _ (by omega), BitVec.toNat_setWidth, Nat.and_two_pow_sub_one_eq_mod]
  unfold tn at s3
  omega
/-- counting by testing -/
def ctB (x : Int64) : Nat → Nat
  | 0 => 0
  | n + 1 => if gt x n = true then ctB x n + 1 else ctB x n
theorem gt_n (x : Int64) (c : Nat) : gt x c = decide (tn x / 2 ^ c % 2 = 1) := by
  unfold gt tn
  rw [BitVec.getLsbD, Nat.testBit_eq_decide_div_mod_eq]
theorem ctB_s (x : Int64) (n : Nat) : ctB x (n + 1) = ctB x n + tn x / 2 ^ n % 2 := by
  show (if gt x n = true then ctB x n + 1 else ctB x n) = _
  rw [gt_n]
  have h : tn x / 2 ^ n % 2 < 2 := Nat.mod_lt _ (by decide)
  by_cases q : tn x / 2 ^ n % 2 = 1
  · rw [decide_eq_true q, if_pos rfl, q]
  · rw [decide_eq_false q, if_neg Bool.false_ne_true]; omega
theorem ctB_8 (x : Int64) (n : Nat) {b : Nat} (hb : tn x / 2 ^ n % 256 = b) : ctB x (n + 8) = ctB x n + p3 b := by
  have hb2 : b < 256 := by omega
  rw [p_f b hb2, ctB_s x (n + 7), ctB_s x (n + 6), ctB_s x (n + 5), ctB_s x (n + 4), ctB_s x (n + 3), ctB_s x (n + 2), ctB_s x (n + 1), ctB_s x n]
  have e : ∀ k, tn x / 2 ^ (n + k) = tn x / 2 ^ n / 2 ^ k := fun k => by rw [Nat.pow_add, Nat.div_div_eq_div_mul]
  rw [e 7, e 6, e 5, e 4, e 3, e 2, e 1]
  generalize tn x / 2 ^ n = z at *
  omega
theorem bcI_ct (x : Int64) : bcI x = nI (ctB x 64) := by
  obtain ⟨a0, a1, a2, a3, a4, a5, a6, a7, h0, h1, h2, h3, h4, h5, h6, h7, hx⟩ := to_by8 (tn_lt x)
  rw [bcI_8 h0 h1 h2 h3 h4 h5 h6 h7 hx]
  congr 1
  unfold by8 at hx
  rw [ctB_8 x 56 (b := a7) (by rw [hx]; omega), ctB_8 x 48 (b := a6) (by rw [hx]; omega), ctB_8 x 40 (b := a5) (by rw [hx]; omega), ctB_8 x 32 (b := a4) (by rw [hx]; omega), ctB_8 x 24 (b := a3) (by rw [hx]; omega), ctB_8 x 16 (b := a2) (by rw [hx]; omega), ctB_8 x 8 (b := a1) (by rw [hx]; omega), ctB_8 x 0 (b := a0) (by rw [hx]; omega)]
  show _ = 0 + _ + _ + _ + _ + _ + _ + _ + _
  omega
theorem ctB_mny {w : Bool} {r : Nat} (hr : r < 4) (thr : Int32) (f : Nat → Int32) : ∀ n, n ≤ 64 → ctB (pM w r thr f) n = mny (pE w r thr f) (pV w r thr f) n
  | 0, _ => rfl
  | n + 1, h => by
    unfold ctB mny
    rw [ctB_mny hr thr f n (by omega), pM_bit hr thr f (by omega), flB_pF]
theorem bcI_mny {w : Bool} {r : Nat} (hr : r < 4) (thr : Int32) (f : Nat → Int32) : bcI (pM w r thr f) = nI (mny (pE w r thr f) (pV w r thr f) 64) := by
  rw [bcI_ct, ctB_mny hr thr f 64 (Nat.le_refl _)]
/-- the least threshold -/
theorem tfC_tf2 {w : Bool} {r : Nat} (hr : r < 4) (nw : Nat → Int32) {k0 : Nat} (h0 : k0 ≤ 64) : ∀ m k, k + m ≤ 255 → (tfC w r nw (nI k0) m k).1 = (tf2 (cnF w r nw) k0 m (k + 1)).1
  | 0, _, _ => rfl
  | m + 1, k, h => by
    have ih := tfC_tf2 (w := w) hr nw h0 m (k + 1) (by omega)
    have hm : cnF w r nw (k + 1) ≤ 64 := mny_le _ _ _
    have e : bcI (pM w r (nI (k + 1)) nw) = nI (cnF w r nw (k + 1)) := bcI_mny hr _ _
    show (if bcI (pM w r (nI (k + 1)) nw) ≤ nI k0 then (nI (k + 1), k + 1) else tfC w r nw (nI k0) m (k + 1)).1 = (if cnF w r nw (k + 1) ≤ k0 then (nI (k + 1), k + 1) else tf2 (cnF w r nw) k0 m (k + 1 + 1)).1
    rw [e]
    by_cases q : cnF w r nw (k + 1) ≤ k0
    · rw [if_pos q, if_pos ((nI_leI (by omega) (by omega)).mpr q)]
    · rw [if_neg q, if_neg (fun z => q ((nI_leI (by omega) (by omega)).mp z))]
      exact ih
end G10
