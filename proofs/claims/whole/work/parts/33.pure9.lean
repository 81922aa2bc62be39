/-! the pure words, ninth: bits, and collecting -/
section G9
def gt (x : Int64) (c : Nat) : Bool := x.toBitVec.getLsbD c
def sb (c : Nat) : Int64 := (1 : Int64) <<< ((nI c).toInt64 &&& 63)
theorem sb_bit : ∀ c, c < 64 → ∀ k, k < 64 → gt (sb c) k = decide (k = c) := by decide +kernel
theorem gt_or (x y : Int64) (c : Nat) : gt (x ||| y) c = (gt x c || gt y c) := by
  unfold gt
  rw [Int64.toBitVec_or, BitVec.getLsbD_or]
theorem gt_0 (c : Nat) : gt 0 c = false := by
  unfold gt
  show (0#64).getLsbD c = false
  exact BitVec.getLsbD_zero
theorem gt_ext {x y : Int64} (h : ∀ c, c < 64 → gt x c = gt y c) : x = y := Int64.toBitVec_inj.mp (BitVec.eq_of_getLsbD_eq (fun c hc => h c hc))
theorem mkk_bit {thr x : Int32} {c : Nat} {mk : Int64} (hc : c < 64) {k : Nat} (hk : k < 64) : gt (mkk thr x c mk) k = (gt mk k || (decide (k = c) && !decide (x < thr))) := by
  unfold mkk
  by_cases h : x < thr
  · rw [if_pos h, decide_eq_true h]; simp
  · rw [if_neg h, decide_eq_false h]
    show gt (mk ||| sb c) k = _
    rw [gt_or, sb_bit c hc k hk]
    simp
theorem pst_bit {w : Bool} {r : Nat} {thr : Int32} {q : gPt} {t : Nat} (ht : t < 64) : ∀ s, s ≤ 64 → gt (pst w r thr q s).2.2.1 (pcl w t) = (gt q.2.2.1 (pcl w t) || (decide (t < s) && !decide ((pst w r thr q t).1 (pcl w t) < thr))) := by
  intro s
  induction s with
  | zero => intro _; show gt q.2.2.1 (pcl w t) = _; simp
  | succ s ih =>
    intro hs
    show gt (mkk thr ((pst w r thr q s).1 (pcl w s)) (pcl w s) (pst w r thr q s).2.2.1) (pcl w t) = _
    rw [mkk_bit (pcl_lt (by omega)) (pcl_lt ht), ih (by omega)]
    by_cases he : t = s
    · subst he; simp
    · have h1 : decide (pcl w t = pcl w s) = false := decide_eq_false (fun z => he (pcl_inj (w := w) ht (by omega) z))
      have h2 : decide (t < s + 1) = decide (t < s) := by by_cases hq : t < s <;> simp [hq] <;> omega
      rw [h1, h2]; simp
theorem pF_eq (w : Bool) (r : Nat) (thr : Int32) (f : Nat → Int32) (c : Nat) : pF w r thr f c = !decide (pV w r thr f c < thr) := by unfold pF; exact decide_not
theorem pM_bit {w : Bool} {r : Nat} (hr : r < 4) (thr : Int32) (f : Nat → Int32) {c : Nat} (hc : c < 64) : gt (pM w r thr f) c = pF w r thr f c := by
  have h := pst_bit (w := w) (r := r) (thr := thr) (q := (f, fun _ => 0, 0, nI 0)) (t := pcl w c) (pcl_lt hc) 64 (Nat.le_refl _)
  rw [pcl_pcl c hc w] at h
  have h2 := pst_old (w := w) hr thr (f, fun _ => 0, 0, nI 0) (pcl w c) 64 (Nat.le_of_lt (pcl_lt hc)) (Nat.le_refl _) (pcl_lt hc)
  rw [pcl_pcl c hc w] at h2
  show gt (pst w r thr (f, fun _ => 0, 0, nI 0) 64).2.2.1 c = _
  rw [h, ← h2, decide_eq_true (pcl_lt hc)]
  show (gt 0 c || (true && !decide (pV w r thr f c < thr))) = _
  rw [gt_0, pF_eq]
  rfl
theorem mkR_bit {er va : Nat → Int32} {c : Nat} (hc : c < 64) : ∀ n, n ≤ 64 → gt (mkR er va n) c = (decide (c < n) && flB er va c) := by
  intro n
  induction n with
  | zero => intro _; show gt 0 c = _; rw [gt_0]; simp
  | succ n ih =>
    intro hn
    have ih := ih (by omega)
    have h0 : gt (mkR er va n ||| 0) c = gt (mkR er va n) c := by rw [gt_or, gt_0, Bool.or_false]
    by_cases he : c = n
    · subst he
      unfold mkR
      by_cases hf : flB er va c = true
      · rw [if_pos hf]
        show gt (mkR er va c ||| sb c) c = _
        rw [gt_or, sb_bit c hc c hc, hf]; simp
      · rw [if_neg hf, h0, ih, Bool.eq_false_iff.mpr hf]; simp
    · have h2 : decide (c < n + 1) = decide (c < n) := by by_cases hq : c < n <;> simp [hq] <;> omega
      unfold mkR
      rw [h2]
      split
      · show gt (mkR er va n ||| sb n) c = _
        rw [gt_or, sb_bit n (by omega) c hc, ih, decide_eq_false he, Bool.or_false]
      · rw [h0, ih]
/-- the reference's mask is the class's -/
theorem mkR_pM {w : Bool} {r : Nat} (hr : r < 4) (thr : Int32) (f : Nat → Int32) : mkR (pE w r thr f) (pV w r thr f) 64 = pM w r thr f := by
  apply gt_ext
  intro c hc
  rw [pM_bit hr thr f hc, mkR_bit hc 64 (Nat.le_refl _), decide_eq_true hc, Bool.true_and, flB_pF]
/-- who hands to whom -/
theorem tg_A : ∀ c, c < 64 → ∀ j, j < 12 → ∀ w : Bool, tI (dirI w (c / 8)) j c = -1 ∨ gI w j (tI (dirI w (c / 8)) j c).toNatClampNeg = nI c := by decide +kernel
theorem tg_B : ∀ c, c < 64 → ∀ j, j < 12 → ∀ w : Bool, gI w j c = -1 ∨ (tI (dirI w ((gI w j c).toNatClampNeg / 8)) j (gI w j c).toNatClampNeg = nI c ∧ pcl w (gI w j c).toNatClampNeg < pcl w c) := by decide +kernel
theorem nI_inj {a b : Nat} (ha : a < 2 ^ 31) (hb : b < 2 ^ 31) (h : nI a = nI b) : a = b := gn_eq ha hb h
theorem tg {w : Bool} {j c c0 : Nat} (hj : j < 12) (hc : c < 64) (h0 : c0 < 64) : tI (dirI w (c0 / 8)) j c0 = nI c ↔ gI w j c = nI c0 := by
  constructor
  · intro h
    rcases tg_A c0 h0 j hj w with q | q
    · rw [q] at h; exact absurd h.symm (nI_nm1 (by omega))
    · rw [h, nI_clamp (by omega)] at q; exact q
  · intro h
    rcases tg_B c hc j hj w with q | q
    · rw [q] at h; exact absurd h.symm (nI_nm1 (by omega))
    · rw [h, nI_clamp (by omega)] at q; exact q.1
/-- what a painting step hands to c -/
def hsm (d : Int32) (r c0 : Nat) (e : Int32) (c : Nat) : Nat → Int32
  | 0 => 0
  | k + 1 => hsm d r c0 e c k + (if tI d (nF r + k) c0 = nI c then sh r (nF r + k) e else 0)
theorem hnd_val {d : Int32} {r c0 : Nat} {e : Int32} {q : (Nat → Int32) × Int32} {c : Nat} (hd : d = -1 ∨ d = nI 1) (hr : r < 4) (h0 : c0 < 64) (hc : c < 64) : ∀ k, k ≤ cntR r → (hnd d r c0 e k q).1 c = q.1 c + hsm d r c0 e c k := by
  intro k
  induction k with
  | zero => intro _; show q.1 c = q.1 c + 0; rw [Int32.add_zero]
  | succ k ih =>
    intro hk
    have hF := nF_f hr
    have hcR : cntR r = nF (r + 1) - nF r := rfl
    have ih := ih (by omega)
    by_cases h : tI d (nF r + k) c0 = -1
    · rw [hnd_p h]
      show (hnd d r c0 e k q).1 c = q.1 c + (hsm d r c0 e c k + (if tI d (nF r + k) c0 = nI c then sh r (nF r + k) e else 0))
      rw [if_neg (fun z => nI_nm1 (k := c) (by omega) (z.symm.trans h)), Int32.add_zero]
      exact ih
    · have ht := tI_nat (d := d) (j := nF r + k) (c := c0) hd (by omega) h0 h
      rw [hnd_n h]
      show upd (hnd d r c0 e k q).1 (tN d (nF r + k) c0) ((hnd d r c0 e k q).1 (tN d (nF r + k) c0) + sh r (nF r + k) e) c = q.1 c + (hsm d r c0 e c k + (if tI d (nF r + k) c0 = nI c then sh r (nF r + k) e else 0))
      unfold upd
      by_cases hq : c = tN d (nF r + k) c0
      · rw [if_pos hq, if_pos (ht.2.trans (congrArg nI hq.symm)), ← hq, ih, Int32.add_assoc]
      · rw [if_neg hq, if_neg (fun z => hq (nI_inj (by omega) (by omega) (z.symm.trans ht.2))), Int32.add_zero]
        exact ih
/-- what has come to c from the cells painted before the step s -/
def cls (w : Bool) (r c : Nat) (E : Nat → Int32) (s : Nat) : Nat → Int32
  | 0 => 0
  | k + 1 => cls w r c E s k + (if gI w (nF r + k) c = -1 then 0 else if pcl w (gN w (nF r + k) c) < s then sh r (nF r + k) (E (gN w (nF r + k) c)) else 0)
theorem cls_0 (w : Bool) (r c : Nat) (E : Nat → Int32) : ∀ k, cls w r c E 0 k = 0
  | 0 => rfl
  | k + 1 => by
    show cls w r c E 0 k + (if gI w (nF r + k) c = -1 then 0 else if pcl w (gN w (nF r + k) c) < 0 then sh r (nF r + k) (E (gN w (nF r + k) c)) else 0) = 0
    rw [cls_0 w r c E k]
    split
    · rfl
    · rw [if_neg (by omega)]; rfl
theorem i32_4 (a b x y : Int32) : (a + x) + (b + y) = (a + b) + (x + y) := by
  rw [Int32.add_assoc, Int32.add_assoc, ← Int32.add_assoc x b y, Int32.add_comm x b, Int32.add_assoc b x y]
theorem cls_s {w : Bool} {r c s : Nat} {E : Nat → Int32} (hr : r < 4) (hc : c < 64) (hs : s < 64) : ∀ k, k ≤ cntR r → cls w r c E (s + 1) k = cls w r c E s k + hsm (dirI w (pcl w s / 8)) r (pcl w s) (E (pcl w s)) c k := by
  intro k
  induction k with
  | zero => intro _; rfl
  | succ k ih =>
    intro hk
    have hF := nF_f hr
    have hcR : cntR r = nF (r + 1) - nF r := rfl
    have ih := ih (by omega)
    show cls w r c E (s + 1) k + (if gI w (nF r + k) c = -1 then 0 else if pcl w (gN w (nF r + k) c) < s + 1 then sh r (nF r + k) (E (gN w (nF r + k) c)) else 0) = (cls w r c E s k + (if gI w (nF r + k) c = -1 then 0 else if pcl w (gN w (nF r + k) c) < s then sh r (nF r + k) (E (gN w (nF r + k) c)) else 0)) + (hsm (dirI w (pcl w s / 8)) r (pcl w s) (E (pcl w s)) c k + (if tI (dirI w (pcl w s / 8)) (nF r + k) (pcl w s) = nI c then sh r (nF r + k) (E (pcl w s)) else 0))
    rw [ih, i32_4]
    congr 1
    have hp := pcl_lt (w := w) hs
    by_cases h : gI w (nF r + k) c = -1
    · rw [if_pos h, if_pos h, if_neg (fun z => by
        have z2 := (tg (by omega) hc hp).mp z
        exact nI_nm1 (k := pcl w s) (by omega) (z2.symm.trans h))]
      rfl
    · have hg := gI_nat (w := w) (j := nF r + k) (c := c) (by omega) hc h
      rw [if_neg h, if_neg h]
      by_cases he : gN w (nF r + k) c = pcl w s
      · have h1 : pcl w (gN w (nF r + k) c) = s := by rw [he]; exact pcl_pcl s hs w
        rw [if_pos (by omega), if_neg (by omega), if_pos ((tg (by omega) hc hp).mpr (hg.2.trans (congrArg nI he))), he, Int32.zero_add]
      · have h1 : ¬ pcl w (gN w (nF r + k) c) = s := fun z => he (by rw [← z]; exact (pcl_pcl _ hg.1 w).symm)
        rw [if_neg (fun z => he (nI_inj (by omega) (by omega) (hg.2.symm.trans ((tg (by omega) hc hp).mp z)))), Int32.add_zero]
        by_cases hq : pcl w (gN w (nF r + k) c) < s
        · rw [if_pos hq, if_pos (by omega)]
        · rw [if_neg hq, if_neg (by omega)]
theorem pst_cls {w : Bool} {r : Nat} {thr : Int32} {q : gPt} {E : Nat → Int32} (hr : r < 4) (hE : ∀ t, t < 64 → E (pcl w t) = stp thr ((pst w r thr q t).1 (pcl w t))) {c : Nat} (hc : c < 64) : ∀ s, s ≤ 64 → (pst w r thr q s).1 c = q.1 c + cls w r c E s (cntR r) := by
  intro s
  induction s with
  | zero => intro _; rw [cls_0, Int32.add_zero]; rfl
  | succ s ih =>
    intro hs
    have ih := ih (by omega)
    rw [cls_s hr hc (by omega) _ (Nat.le_refl _), ← Int32.add_assoc, ← ih, hE s (by omega)]
    exact hnd_val (dirI_cases _ _) hr (pcl_lt (by omega)) hc _ (Nat.le_refl _)
theorem cls_clt {w : Bool} {r c : Nat} {E E2 : Nat → Int32} {s : Nat} (hr : r < 4) (hc : c < 64) (hs : pcl w c ≤ s) (hE : ∀ b, b < 64 → pcl w b < pcl w c → E b = E2 b) : ∀ k, k ≤ cntR r → cls w r c E s k = clt w r c E2 k := by
  intro k
  induction k with
  | zero => intro _; rfl
  | succ k ih =>
    intro hk
    have hF := nF_f hr
    have hcR : cntR r = nF (r + 1) - nF r := rfl
    have ih := ih (by omega)
    show cls w r c E s k + (if gI w (nF r + k) c = -1 then 0 else if pcl w (gN w (nF r + k) c) < s then sh r (nF r + k) (E (gN w (nF r + k) c)) else 0) = if gI w (nF r + k) c = -1 then clt w r c E2 k else clt w r c E2 k + sh r (nF r + k) (E2 (gN w (nF r + k) c))
    rw [ih]
    by_cases h : gI w (nF r + k) c = -1
    · rw [if_pos h, if_pos h, Int32.add_zero]
    · have hg := gI_nat (w := w) (j := nF r + k) (c := c) (by omega) hc h
      rcases tg_B c hc (nF r + k) (by omega) w with q | q
      · exact absurd q h
      · have q2 : pcl w (gN w (nF r + k) c) < pcl w c := q.2
        rw [if_neg h, if_neg h, if_pos (by omega), hE _ hg.1 q2]
theorem pV_clt {w : Bool} {r : Nat} (hr : r < 4) (thr : Int32) (f : Nat → Int32) {c : Nat} (hc : c < 64) {E2 : Nat → Int32} (hE : ∀ b, b < 64 → pcl w b < pcl w c → pE w r thr f b = E2 b) : pV w r thr f c = f c + clt w r c E2 (cntR r) := by
  have h := pst_cls (w := w) (r := r) (thr := thr) (q := (f, fun _ => 0, 0, nI 0)) (E := pE w r thr f) hr (fun t ht => by
    show stp thr ((pst w r thr (f, fun _ => 0, 0, nI 0) 64).1 (pcl w t)) = _
    rw [pst_old (w := w) hr thr _ t 64 (by omega) (Nat.le_refl _) ht]) hc 64 (Nat.le_refl _)
  rw [cls_clt hr hc (Nat.le_of_lt (pcl_lt hc)) hE _ (Nat.le_refl _)] at h
  exact h
/-- collecting leaves the same errors and the same mask -/
theorem cst_f {w : Bool} {r : Nat} (hr : r < 4) (thr : Int32) (f fv fe : Nat → Int32) (lo : Int32) : ∀ s, s ≤ 64 → (∀ t, t < s → (cst w r thr f (fv, fe, 0, lo) s).2.1 (pcl w t) = pE w r thr f (pcl w t)) ∧ ∀ t, t < 64 → gt (cst w r thr f (fv, fe, 0, lo) s).2.2.1 (pcl w t) = (decide (t < s) && pF w r thr f (pcl w t)) := by
  intro s
  induction s with
  | zero => intro _; exact ⟨fun t ht => by omega, fun t ht => by show gt 0 _ = _; rw [gt_0]; simp⟩
  | succ s ih =>
    intro hs
    obtain ⟨h1, h2⟩ := ih (by omega)
    have hp := pcl_lt (w := w) (show s < 64 by omega)
    have hv : f (pcl w s) + clt w r (pcl w s) (cst w r thr f (fv, fe, 0, lo) s).2.1 (cntR r) = pV w r thr f (pcl w s) := by
      refine (pV_clt hr thr f hp (fun b hb hlt => ?_)).symm
      rw [pcl_pcl s (by omega) w] at hlt
      have := h1 (pcl w b) hlt
      rw [pcl_pcl b hb w] at this
      exact this.symm
    refine ⟨fun t ht => ?_, fun t ht => ?_⟩
    · show upd (cst w r thr f (fv, fe, 0, lo) s).2.1 (pcl w s) (stp thr (f (pcl w s) + clt w r (pcl w s) (cst w r thr f (fv, fe, 0, lo) s).2.1 (cntR r))) (pcl w t) = _
      rw [hv]
      unfold upd
      by_cases he : t = s
      · subst he; rw [if_pos rfl]; rfl
      · rw [if_neg (fun z => he (pcl_inj (w := w) (by omega) (by omega) z))]; exact h1 t (by omega)
    · show gt (mkk thr (f (pcl w s) + clt w r (pcl w s) (cst w r thr f (fv, fe, 0, lo) s).2.1 (cntR r)) (pcl w s) (cst w r thr f (fv, fe, 0, lo) s).2.2.1) (pcl w t) = _
      rw [hv, mkk_bit hp (pcl_lt ht), h2 t ht]
      by_cases he : t = s
      · subst he; rw [pF_eq]; simp
      · have h3 : decide (pcl w t = pcl w s) = false := decide_eq_false (fun z => he (pcl_inj (w := w) ht (by omega) z))
        have h4 : decide (t < s + 1) = decide (t < s) := by by_cases hq : t < s <;> simp [hq] <;> omega
        rw [h3, h4]; simp
theorem cst_pM {w : Bool} {r : Nat} (hr : r < 4) (thr : Int32) (f fv fe : Nat → Int32) (lo : Int32) : (cst w r thr f (fv, fe, 0, lo) 64).2.2.1 = pM w r thr f := by
  apply gt_ext
  intro c hc
  have h := (cst_f (w := w) hr thr f fv fe lo 64 (Nat.le_refl _)).2 (pcl w c) (pcl_lt hc)
  rw [pcl_pcl c hc w, decide_eq_true (pcl_lt hc), Bool.true_and] at h
  rw [h, pM_bit hr thr f hc]
/-- the differences -/
theorem sh_nat : ∀ k, k < 64 → (((nI k).toInt64.toUInt64 &&& Int64.toUInt64 63).toBitVec % 64).toNat = k := by decide +kernel
theorem lsr_bv (x : Int64) {k : Nat} (hk : k < 64) : ((x.toUInt64 >>> ((nI k).toInt64.toUInt64 &&& Int64.toUInt64 63)).toInt64).toBitVec = x.toBitVec >>> k := by
  show (x.toUInt64 >>> ((nI k).toInt64.toUInt64 &&& Int64.toUInt64 63)).toBitVec = _
  rw [UInt64.toBitVec_shiftRight]
  exact congrArg (fun z => x.toBitVec >>> z) (sh_nat k hk)
theorem bitI_gt (mk : Int64) {c : Nat} (hc : c < 64) : bitI mk c = 1 ↔ gt mk c = true := by
  unfold bitI gt
  rw [← Int64.toBitVec_inj, Int64.toBitVec_and, lsr_bv mk hc]
  show (mk.toBitVec >>> c) &&& 1#64 = 1#64 ↔ _
  rw [BitVec.and_one_eq_setWidth_ofBool_getLsbD, BitVec.getLsbD_ushiftRight, Nat.add_zero]
  cases mk.toBitVec.getLsbD c <;> decide
theorem dfo_fl {w : Bool} {r : Nat} (hr : r < 4) (thr : Int32) (nw : Nat → Int32) {c : Nat} (hc : c < 64) : dfo (pM w r thr nw) nw c = nw c - fl255 (pE w r thr nw) (pV w r thr nw) c := by
  unfold dfo fl255
  rw [flB_pF]
  by_cases h : pF w r thr nw c = true
  · rw [if_pos ((bitI_gt _ hc).mpr ((pM_bit hr thr nw hc).trans h)), if_pos h]
  · rw [if_neg (fun z => h ((pM_bit hr thr nw hc).symm.trans ((bitI_gt _ hc).mp z))), if_neg h]
    show nw c = nw c - 0
    rw [Int32.sub_zero]
theorem dsq_ofs {w : Bool} {r : Nat} (hr : r < 4) (thr : Int32) (nw : Nat → Int32) {q : Nat} (hq : q < 16) : dsq (pM w r thr nw) nw (cor q) = ofs nw (pE w r thr nw) (pV w r thr nw) q 4 := by
  have h0 : osq q 0 = cor q := by unfold osq cor; omega
  have h1 : osq q 1 = cor q + 1 := by unfold osq cor; omega
  have h2 : osq q 2 = cor q + 8 := by unfold osq cor; omega
  have h3 : osq q 3 = cor q + 8 + 1 := by unfold osq cor; omega
  have hl := osq_lt hq (show 3 < 4 by omega)
  rw [h3] at hl
  show _ = nI 0 + (nw (osq q 0) - fl255 _ _ (osq q 0)) + (nw (osq q 1) - fl255 _ _ (osq q 1)) + (nw (osq q 2) - fl255 _ _ (osq q 2)) + (nw (osq q 3) - fl255 _ _ (osq q 3))
  unfold dsq
  rw [h0, h1, h2, h3, dfo_fl hr thr nw (by omega), dfo_fl hr thr nw (by omega), dfo_fl hr thr nw (by omega), dfo_fl hr thr nw (by omega), show nI 0 = 0 from rfl, Int32.zero_add]
theorem aI_nab (x : Int32) : aI x = nab x := by unfold aI nab; rw [Int32.zero_sub]
theorem dall_aof {w : Bool} {r : Nat} (hr : r < 4) (thr : Int32) (nw : Nat → Int32) : ∀ n, n ≤ 16 → dall (pM w r thr nw) nw n = aof nw (pE w r thr nw) (pV w r thr nw) n
  | 0, _ => rfl
  | n + 1, h => by
    show dall (pM w r thr nw) nw n + aI (dsq (pM w r thr nw) nw (cor n)) = aof nw _ _ n + nab (ofs nw _ _ n 4)
    rw [dall_aof hr thr nw n (by omega), aI_nab, dsq_ofs hr thr nw (by omega)]
/-- the smoothest rule -/
theorem cls9_c {R S : Nat → Int32} : ∀ n, (∀ i, i ≤ n → R i = S i) → cls9 R n = cls9 S n
  | 0, h => by show (0, R 0) = (0, S 0); rw [h 0 (Nat.le_refl _)]
  | n + 1, h => by
    unfold cls9
    rw [cls9_c n (fun i hi => h i (by omega)), h (n + 1) (Nat.le_refl _)]
theorem smo_cls (R : Nat → Int32) : ∀ n, smo R (n + 1) = cls9 R n
  | 0 => if_pos (Or.inl rfl)
  | n + 1 => by
    have ih := smo_cls R n
    show (if n + 1 = 0 ∨ R (n + 1) < (smo R (n + 1)).2 then (n + 1, R (n + 1)) else smo R (n + 1)) = (if R (n + 1) < (cls9 R n).2 then (n + 1, R (n + 1)) else cls9 R n)
    rw [ih]
    by_cases h : R (n + 1) < (cls9 R n).2
    · rw [if_pos (Or.inr h), if_pos h]
    · rw [if_neg (fun z => z.elim (by omega) h), if_neg h]
theorem smooth_eq (w : Bool) (nw : Nat → Int32) : (cls9 (fun i => dall (pM w i (nw 65) nw) nw 16) 3).1 = (smo (rgh w nw) 4).1 := by
  rw [smo_cls]
  exact congrArg Prod.fst (cls9_c 3 (fun i hi => dall_aof (by omega) _ _ 16 (Nat.le_refl _)))
/-- handed on -/
def tI_chk (w : Bool) (c r k2 k1 : Nat) : Bool := decide (k2 ≤ k1) || (decide (cntR r ≤ k2) || (decide (tI (dirI w (c / 8)) (nF r + k2) c = -1) || !decide (tI (dirI w (c / 8)) (nF r + k1) c = tI (dirI w (c / 8)) (nF r + k2) c)))
theorem tI_inj0 : ∀ c, c < 64 → ∀ w : Bool, ((List.range 4).all fun r => (List.range 5).all fun k2 => (List.range 5).all fun k1 => tI_chk w c r k2 k1) = true := by decide +kernel
theorem tI_inj (r : Nat) (hr : r < 4) (k2 : Nat) (h2 : k2 < 5) (k1 : Nat) (h1 : k1 < k2) (c : Nat) (hc : c < 64) (w : Bool) (hk : k2 < cntR r) : tI (dirI w (c / 8)) (nF r + k2) c = -1 ∨ ¬ tI (dirI w (c / 8)) (nF r + k1) c = tI (dirI w (c / 8)) (nF r + k2) c := by
  have h := List.all_eq_true.mp (List.all_eq_true.mp (List.all_eq_true.mp (tI_inj0 c hc w) r (List.mem_range.mpr hr)) k2 (List.mem_range.mpr h2)) k1 (List.mem_range.mpr (by omega))
  unfold tI_chk at h
  rw [decide_eq_false (by omega), decide_eq_false (by omega), Bool.false_or, Bool.false_or, Bool.or_eq_true] at h
  rcases h with q | q
  · exact Or.inl (of_decide_eq_true q)
  · exact Or.inr (fun z => by rw [decide_eq_true z] at q; exact absurd q (by decide))
theorem hoC_no {w : Bool} {r c : Nat} {o e : Int32} : ∀ m k, (∀ j, k ≤ j → j < k + m → ¬ tI (dirI w (c / 8)) (nF r + j) c = o) → hoC w r c o e m k = nI 0
  | 0, _, _ => rfl
  | m + 1, k, h => by
    show (if tI (dirI w (c / 8)) (nF r + k) c = o then sh r (nF r + k) e else hoC w r c o e m (k + 1)) = nI 0
    rw [if_neg (h k (Nat.le_refl _) (by omega))]
    exact hoC_no m (k + 1) (fun j h1 h2 => h j (by omega) (by omega))
theorem hdo_no {w : Bool} {r c : Nat} {o e : Int32} : ∀ k, (∀ j, j < k → ¬ tI (dirI w (c / 8)) (nF r + j) c = o) → hdo w r c o e k = nI 0
  | 0, _ => rfl
  | k + 1, h => by
    show (if tI (dirI w (c / 8)) (nF r + k) c = o then hdo w r c o e k + sh r (nF r + k) e else hdo w r c o e k + nI 0) = nI 0
    rw [if_neg (h k (by omega)), hdo_no k (fun j hj => h j (by omega))]
    rfl
theorem hdo_one {w : Bool} {r c : Nat} {o e : Int32} {k0 : Nat} (h0 : tI (dirI w (c / 8)) (nF r + k0) c = o) : ∀ k, k0 < k → (∀ j, j < k → ¬ j = k0 → ¬ tI (dirI w (c / 8)) (nF r + j) c = o) → hdo w r c o e k = sh r (nF r + k0) e
  | 0, h, _ => by omega
  | k + 1, h, hj => by
    show (if tI (dirI w (c / 8)) (nF r + k) c = o then hdo w r c o e k + sh r (nF r + k) e else hdo w r c o e k + nI 0) = _
    by_cases he : k = k0
    · subst he
      rw [if_pos h0, hdo_no k (fun j h1 => hj j (by omega) (by omega)), show nI 0 = 0 from rfl, Int32.zero_add]
    · rw [if_neg (hj k (by omega) he), hdo_one h0 k (by omega) (fun j h1 h2 => hj j (by omega) h2), show nI 0 = 0 from rfl, Int32.add_zero]
theorem hoC_hdo {w : Bool} {r c : Nat} {o : Nat} {e : Int32} (hr : r < 4) (hc : c < 64) (ho : o < 64) : hoC w r c (nI o) e (cntR r) 0 = hdo w r c (nI o) e (cntR r) := by
  have h5 := (cntR_pos hr).2
  by_cases hex : ∃ k, k < cntR r ∧ tI (dirI w (c / 8)) (nF r + k) c = nI o
  · obtain ⟨k0, hk, h0⟩ := hex
    have hne : ∀ j, j < cntR r → ¬ j = k0 → ¬ tI (dirI w (c / 8)) (nF r + j) c = nI o := by
      intro j hj hne z
      by_cases hlt : j < k0
      · rcases tI_inj r hr k0 (by omega) j hlt c hc w hk with q | q
        · exact nI_nm1 (k := o) (by omega) (h0.symm.trans q)
        · exact q (z.trans h0.symm)
      · rcases tI_inj r hr j (by omega) k0 (by omega) c hc w hj with q | q
        · exact nI_nm1 (k := o) (by omega) (z.symm.trans q)
        · exact q (h0.trans z.symm)
    rw [hdo_one h0 _ hk hne]
    have go : ∀ m k, k ≤ k0 → k + m = cntR r → hoC w r c (nI o) e m k = sh r (nF r + k0) e := by
      intro m
      induction m with
      | zero => intro k h1 h2; omega
      | succ m ih =>
        intro k h1 h2
        show (if tI (dirI w (c / 8)) (nF r + k) c = nI o then sh r (nF r + k) e else hoC w r c (nI o) e m (k + 1)) = _
        by_cases he : k = k0
        · rw [he, if_pos h0]
        · rw [if_neg (hne k (by omega) he)]
          exact ih (k + 1) (by omega) (by omega)
    exact go _ 0 (Nat.zero_le _) (by omega)
  · rw [hoC_no _ _ (fun j _ h2 z => hex ⟨j, by omega, z⟩), hdo_no _ (fun j hj z => hex ⟨j, hj, z⟩)]
end G9
