/-! doubles: no NaN comes up -/
section G14
theorem n64_val (r : UInt64) (h : FP.Core.val64 r ≠ .nan) : vf_n64 r := by
  unfold vf_n64
  have hr := r.toNat_lt
  rw [UInt64.le_iff_toNat_le, UInt64.toNat_and, show (0x7fffffffffffffff : UInt64).toNat = 2 ^ 63 - 1 from rfl, Nat.and_two_pow_sub_one_eq_mod, show (0x7ff0000000000000 : UInt64).toNat = 9218868437227405312 from rfl]
  apply Nat.le_of_not_lt
  intro z
  apply h
  unfold FP.Core.val64 FP.Core.decode
  have e1 : FP.Core.fieldE FP.Core.b64 r.toNat = FP.Core.b64.exps - 1 := by
    show r.toNat / 4503599627370496 % 2048 = 2047
    omega
  have e2 : ¬ FP.Core.fieldT FP.Core.b64 r.toNat = 0 := by
    show ¬ r.toNat % 4503599627370496 = 0
    omega
  rw [if_pos e1, if_neg e2]
theorem val_n64 (r : UInt64) (h : vf_n64 r) : FP.Core.val64 r ≠ .nan := by
  unfold vf_n64 at h
  have hr := r.toNat_lt
  rw [UInt64.le_iff_toNat_le, UInt64.toNat_and, show (0x7fffffffffffffff : UInt64).toNat = 2 ^ 63 - 1 from rfl, Nat.and_two_pow_sub_one_eq_mod, show (0x7ff0000000000000 : UInt64).toNat = 9218868437227405312 from rfl] at h
  unfold FP.Core.val64 FP.Core.decode
  split
  · rename_i e
    have e : r.toNat / 4503599627370496 % 2048 = 2047 := e
    split
    · intro z; cases z
    · rename_i e2
      have e2 : ¬ r.toNat % 4503599627370496 = 0 := e2
      omega
  · split
    · intro z; cases z
    · intro z; cases z
theorem rr_ne (f : FP.Core.Fmt) (s : Bool) (a b : Nat) (e : Int) : FP.Core.roundRatio f s a b e ≠ .nan := by
  unfold FP.Core.roundRatio FP.Core.roundAt FP.Core.settle FP.Core.bound
  split
  · intro z; cases z
  · split
    · split
      · intro z; cases z
      · intro z; cases z
    · split
      · intro z; cases z
      · intro z; cases z
theorem i2d_ne (a : Int32) : FP.Core.val64 (FP.i2d a) ≠ .nan := by
  show FP.Core.val64 (FP.Core.i2d a) ≠ .nan
  rw [FP.Core.val64_i2d]
  exact rr_ne _ _ _ _ _
theorem div_ne {x y : UInt64} (hx : FP.Core.val64 x ≠ .nan) {t : Bool} {d : Nat} {q : Int} (hy : FP.Core.val64 y = .fin t d q) (hd : ¬ d = 0) : FP.Core.val64 (FP.ddiv x y) ≠ .nan := by
  show FP.Core.val64 (FP.Core.ddiv x y) ≠ .nan
  rw [FP.Core.val64_ddiv, hy]
  cases h : FP.Core.val64 x with
  | nan => exact absurd h hx
  | inf s => intro z; cases z
  | fin s c r =>
    show (if d = 0 then _ else FP.Core.roundRatio FP.Core.b64 (s != t) c d (r - q)) ≠ .nan
    rw [if_neg hd]
    exact rr_ne _ _ _ _ _
theorem n64_a (a : Int32) : vf_n64 (FP.ddiv (FP.i2d a) 4634204016564240384) :=
  n64_val _ (div_ne (i2d_ne a) (t := false) (d := 4503599627370496) (q := -46) (by decide +kernel) (by decide))
theorem n64_b (a : Int32) : vf_n64 (FP.ddiv (FP.i2d a) 4670197629211115520) := by
  refine n64_val _ (div_ne (i2d_ne a) (t := false) (d := 8972014882652160) (q := -39) ?_ (by decide))
  decide +kernel
def fin64 (x : UInt64) : Bool := match FP.Core.val64 x with
  | .fin _ _ _ => true
  | _ => false
theorem fin_a : ∀ k, k < 65 → fin64 (FP.ddiv (FP.i2d (nI k)) 4634204016564240384) = true := by decide +kernel
theorem n64_s {k : Nat} (hk : k ≤ 64) (a : Int32) : vf_n64 (FP.dsub (FP.ddiv (FP.i2d (nI k)) 4634204016564240384) (FP.ddiv (FP.i2d a) 4670197629211115520)) := by
  apply n64_val
  have hb := val_n64 _ (n64_b a)
  have ha := fin_a k (by omega)
  generalize FP.ddiv (FP.i2d (nI k)) 4634204016564240384 = x at *
  generalize FP.ddiv (FP.i2d a) 4670197629211115520 = y at *
  show FP.Core.val64 (FP.Core.dsub x y) ≠ .nan
  rw [FP.Core.val64_dsub]
  unfold fin64 at ha
  cases h : FP.Core.val64 x with
  | nan => rw [h] at ha; cases ha
  | inf s => rw [h] at ha; cases ha
  | fin s c q =>
    cases h2 : FP.Core.val64 y with
    | nan => exact absurd h2 hb
    | inf t => intro z; cases z
    | fin t d r => exact rr_ne _ _ _ _ _
theorem dcmp_self {x : UInt64} (h : vf_n64 x) : FP.dcmp x x = some .eq := by
  have h2 := val_n64 x h
  show FP.Core.order (FP.Core.val64 x) (FP.Core.val64 x) = some .eq
  cases h3 : FP.Core.val64 x with
  | nan => exact absurd h3 h2
  | inf s => show some (compare (FP.Core.signed s 1) (FP.Core.signed s 1)) = some .eq; rw [Int.compare_eq_eq.mpr rfl]
  | fin s c q => show some (compare (FP.Core.signed s (FP.Core.inUnits c q (min q q))) (FP.Core.signed s (FP.Core.inUnits c q (min q q)))) = some .eq; rw [Int.compare_eq_eq.mpr rfl]
end G14
