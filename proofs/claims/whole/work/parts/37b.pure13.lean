/-! the pure words, thirteenth: the commands are done alike -/
section G13
theorem nlp_nmb {T : Nat → Nat} {n most : Nat} : ∀ k a v, n - a ≤ k → ¬ dgt T n (nlp T n most k a v).2 → (∀ j, T j < 128) → nmb T n k a v = (nlp T n most k a v).1 := by
  intro k
  induction k with
  | zero => intro a v _ _ _; rfl
  | succ k ih =>
    intro a v hk hd hT
    unfold nlp at hd ⊢
    by_cases h : 0 < v ∧ a < n ∧ bR (nI (T a)) 48 57 = true ∧ 10 * v + T a - 48 ≤ most
    · rw [if_pos h] at hd ⊢
      have d := (dgt_iff hT a).mp h.2.2.1
      rw [← ih (a + 1) (10 * v + T a - 48) (by omega) hd hT]
      show (if a < n ∧ bR (nI (T a)) 48 57 = true then nmb T n k (a + 1) (10 * v + (T a - 48)) else v) = _
      rw [if_pos ⟨h.2.1, h.2.2.1⟩, show 10 * v + (T a - 48) = 10 * v + T a - 48 from by omega]
    · rw [if_neg h] at hd ⊢
      exact nmb_stop hd
theorem nm1_nmb {T : Nat → Nat} {n most a : Nat} (hT : ∀ j, T j < 128) (hd : dgt T n a) (he : ¬ dgt T n (nm1 T n most a).2) : nmb T n (n - a) a 0 = (nm1 T n most a).1 := by
  rw [nmb_go hd.1 hd.2, show 10 * 0 + (T a - 48) = T a - 48 from by omega]
  exact nlp_nmb _ _ _ (Nat.le_refl _) he hT
theorem nlp_dg {T : Nat → Nat} {n most : Nat} (hT : ∀ j, T j < 128) : ∀ k a v j, a ≤ j → j < (nlp T n most k a v).2 → 48 ≤ T j ∧ T j ≤ 57 := by
  intro k
  induction k with
  | zero => intro a v j h1 h2; have h2 : j < a := h2; omega
  | succ k ih =>
    intro a v j h1 h2
    unfold nlp at h2
    by_cases h : 0 < v ∧ a < n ∧ bR (nI (T a)) 48 57 = true ∧ 10 * v + T a - 48 ≤ most
    · rw [if_pos h] at h2
      by_cases e : j = a
      · rw [e]; exact (dgt_iff hT a).mp h.2.2.1
      · exact ih _ _ j (by omega) h2
    · rw [if_neg h] at h2
      have h2 : j < a := h2
      omega
theorem nm1_dg {T : Nat → Nat} {n most a : Nat} (hT : ∀ j, T j < 128) (hd : dgt T n a) {j : Nat} (h1 : a ≤ j) (h2 : j < (nm1 T n most a).2) : 48 ≤ T j ∧ T j ≤ 57 := by
  by_cases e : j = a
  · rw [e]; exact (dgt_iff hT a).mp hd.2
  · exact nlp_dg hT _ _ _ j (by omega) h2
theorem fnd_to {T : Nat → Nat} {n ch b : Nat} (hb : b < n) (hc : T b = ch) : ∀ m i, i ≤ b → b - i ≤ m → (∀ j, i ≤ j → j < b → ¬ T j = ch) → fnd T n ch (n - i) i = b := by
  intro m
  induction m with
  | zero => intro i h1 h2 _; rw [show i = b from by omega]; exact fnd_stop (fun z => z.2 hc)
  | succ m ih =>
    intro i h1 h2 h3
    by_cases e : i = b
    · rw [e]; exact fnd_stop (fun z => z.2 hc)
    · rw [fnd_go (by omega) (h3 i (Nat.le_refl _) (by omega))]
      exact ih (i + 1) (by omega) (by omega) (fun j h4 h5 => h3 j (by omega) h5)
/-- what a command that goes says of the text -/
def cgo (T : Nat → Nat) (n p s v w e : Nat) : Prop := p < n ∧ T p = s ∧ p + 1 ≤ e ∧ e ≤ n ∧ (∀ j, p ≤ j → j < e → ¬ T j = 59) ∧ v ≤ 999 ∧ w ≤ 999 ∧ (s = 103 → num1 T n p = nI v ∧ num2 T n p = nI w) ∧ (s = 116 ∨ s = 114 → num1 T n p = nI v) ∧ sorts s
theorem cmd_cgo {T : Nat → Nat} {n p : Nat} (hp : p ≤ n) (hT : ∀ j, T j < 128) (h : (cmd T n p).1 = true) (he : (cmd T n p).2.1 = n ∨ T (cmd T n p).2.1 = 59) : ∃ v w, (cmd T n p).2.2.2.1 = nI v ∧ (cmd T n p).2.2.2.2 = nI w ∧ cgo T n p (cmd T n p).2.2.1 v w (cmd T n p).2.1 := by
  have hf := cmd_f hp hT
  have nd : ∀ b, b = n ∨ T b = 59 → ¬ dgt T n b := fun b hb z => by
    have d := (dgt_iff hT b).mp z.2
    have := z.1
    omega
  have n61 : ∀ b, T b = 61 → ¬ dgt T n b := fun b hb z => by have d := (dgt_iff hT b).mp z.2; omega
  unfold cmd at h he hf ⊢
  by_cases h1 : p < n ∧ T p = 103
  · rw [if_pos h1] at h he hf ⊢
    by_cases h2 : p + 1 < n ∧ bR (nI (T (p + 1))) 48 57 = true
    · rw [if_pos h2] at h he hf ⊢
      have f1 := nm1_f (most := 999) h2 hT (by omega)
      by_cases h3 : (nm1 T n 999 (p + 1)).2 < n ∧ T (nm1 T n 999 (p + 1)).2 = 61
      · rw [if_pos h3] at h he hf ⊢
        by_cases h4 : (nm1 T n 999 (p + 1)).2 + 1 < n ∧ bR (nI (T ((nm1 T n 999 (p + 1)).2 + 1))) 48 57 = true
        · rw [if_pos h4] at h he hf ⊢
          have f2 := nm1_f (most := 999) h4 hT (by omega)
          refine ⟨_, _, rfl, rfl, h1.1, h1.2, hf.2 rfl |>.1, f2.2.1, fun j j1 j2 => ?_, f1.2.2, f2.2.2, fun _ => ⟨?_, ?_⟩, fun z => absurd z (show ¬ ((103 : Nat) = 116 ∨ (103 : Nat) = 114) by decide), Or.inl rfl⟩
          · have j2 : j < (nm1 T n 999 ((nm1 T n 999 (p + 1)).2 + 1)).2 := j2
            by_cases c1 : j = p
            · rw [c1]; omega
            · by_cases c2 : j < (nm1 T n 999 (p + 1)).2
              · have := nm1_dg hT h2 (show p + 1 ≤ j by omega) c2; omega
              · by_cases c3 : j = (nm1 T n 999 (p + 1)).2
                · rw [c3]; omega
                · have := nm1_dg hT h4 (show (nm1 T n 999 (p + 1)).2 + 1 ≤ j by omega) j2; omega
          · exact congrArg nI (nm1_nmb hT h2 (n61 _ h3.2))
          · unfold num2
            rw [fnd_to (b := (nm1 T n 999 (p + 1)).2) h3.1 h3.2 n p (by omega) (by omega) (fun j j1 j2 => by
              by_cases c1 : j = p
              · rw [c1]; omega
              · have := nm1_dg hT h2 (show p + 1 ≤ j by omega) j2; omega)]
            exact congrArg nI (nm1_nmb hT h4 (nd _ he))
        · rw [if_neg h4] at h; exact absurd h Bool.false_ne_true
      · rw [if_neg h3] at h; exact absurd h Bool.false_ne_true
    · rw [if_neg h2] at h; exact absurd h Bool.false_ne_true
  · rw [if_neg h1] at h he hf ⊢
    by_cases h2 : p < n ∧ T p = 105
    · rw [if_pos h2] at h he hf ⊢
      refine ⟨0, 0, rfl, rfl, h2.1, h2.2, Nat.le_refl _, h2.1, fun j j1 j2 => ?_, by omega, by omega, fun z => absurd z (show ¬ (105 : Nat) = 103 by decide), fun z => absurd z (show ¬ ((105 : Nat) = 116 ∨ (105 : Nat) = 114) by decide), Or.inr (Or.inl rfl)⟩
      have j2 : j < p + 1 := j2
      rw [show j = p from by omega]; omega
    · rw [if_neg h2] at h he hf ⊢
      by_cases h3 : p < n ∧ T p = 116
      · rw [if_pos h3] at h he hf ⊢
        by_cases h4 : p + 1 < n ∧ bR (nI (T (p + 1))) 48 57 = true
        · rw [if_pos h4] at h he hf ⊢
          have f1 := nm1_f (most := 999) h4 hT (by omega)
          refine ⟨_, 0, rfl, rfl, h3.1, h3.2, hf.2 rfl |>.1, f1.2.1, fun j j1 j2 => ?_, f1.2.2, by omega, fun z => absurd z (show ¬ (116 : Nat) = 103 by decide), fun _ => congrArg nI (nm1_nmb hT h4 (nd _ he)), Or.inr (Or.inr (Or.inl rfl))⟩
          by_cases c1 : j = p
          · rw [c1]; omega
          · have := nm1_dg hT h4 (show p + 1 ≤ j by omega) j2; omega
        · rw [if_neg h4] at h; exact absurd h Bool.false_ne_true
      · rw [if_neg h3] at h he hf ⊢
        by_cases h4 : p < n ∧ T p = 119
        · rw [if_pos h4] at h he hf ⊢
          refine ⟨0, 0, rfl, rfl, h4.1, h4.2, Nat.le_refl _, h4.1, fun j j1 j2 => ?_, by omega, by omega, fun z => absurd z (show ¬ (119 : Nat) = 103 by decide), fun z => absurd z (show ¬ ((119 : Nat) = 116 ∨ (119 : Nat) = 114) by decide), Or.inr (Or.inr (Or.inr (Or.inl rfl)))⟩
          have j2 : j < p + 1 := j2
          rw [show j = p from by omega]; omega
        · rw [if_neg h4] at h he hf ⊢
          by_cases h5 : p < n ∧ T p = 114
          · rw [if_pos h5] at h he hf ⊢
            by_cases h6 : p + 1 < n ∧ bR (nI (T (p + 1))) 48 57 = true
            · rw [if_pos h6] at h he hf ⊢
              have f1 := nm1_f (most := 9) h6 hT (by omega)
              refine ⟨_, 0, rfl, rfl, h5.1, h5.2, hf.2 rfl |>.1, f1.2.1, fun j j1 j2 => ?_, by omega, by omega, fun z => absurd z (show ¬ (114 : Nat) = 103 by decide), fun _ => congrArg nI (nm1_nmb hT h6 (nd _ he)), Or.inr (Or.inr (Or.inr (Or.inr rfl)))⟩
              by_cases c1 : j = p
              · rw [c1]; omega
              · have := nm1_dg hT h6 (show p + 1 ≤ j by omega) j2; omega
            · rw [if_neg h6] at h; exact absurd h Bool.false_ne_true
          · rw [if_neg h5] at h; exact absurd h Bool.false_ne_true
/-- the state of the class that belongs to the reference's -/
def zR (nw : Nat → Int32) (t : Int32) (S : exT) : Prop := okA nw ∧ same nw S.1 S.2.1 t S.2.2
theorem bR_nIn {k a b : Nat} (hk : k < 2 ^ 31) : bR (nI k) a b = decide (a ≤ k ∧ k ≤ b) := by
  unfold bR; rw [nI_toInt hk]
  by_cases q : a ≤ k ∧ k ≤ b
  · rw [decide_eq_true q]; exact decide_eq_true (by omega)
  · rw [decide_eq_false q]; exact decide_eq_false (by omega)
theorem zR_mU {nw : Nat → Int32} {t : Int32} {f : Nat → Int32} {r : Int32} {w : Bool} {φ ψ : Int32 → Int32} (h : zR nw t (f, r, w)) (hψ : ∀ x, bR x 0 255 = true → bR (ψ x) 0 255 = true) (he : ∀ x, bR x 0 255 = true → φ x = ψ x) : zR (mU ψ nw 64) t (mU φ f 64, r, w) := by
  obtain ⟨ho, hs⟩ := h
  have hs0 : same nw nw r t w := ⟨fun _ _ => rfl, hs.2⟩
  obtain ⟨a, b⟩ := rel_mU (φ := ψ) ho hs0 hψ
  refine ⟨a, same_c b (fun j hj => ?_)⟩
  show mU φ f 64 j = mU ψ nw 64 j
  unfold mU
  rw [if_pos hj, if_pos hj, show f j = nw j from hs.1 j hj]
  exact he _ (ho.1 j hj)
theorem one_cmd {T : Nat → Nat} {n p s v w e : Nat} {nw : Nat → Int32} {t : Int32} {S : exT} (hc : cgo T n p s v w e) (h : zR nw t S) : (ex1 T n p S).1 = (dsN nw s v w).1 ∧ zR (dsN nw s v w).2 t (ex1 T n p S).2 := by
  obtain ⟨hp, hs, _, _, _, hv, hw, c1, c2, hso⟩ := hc
  have hch : chr T n p = s := by unfold chr; rw [if_pos hp]; exact hs
  obtain ⟨f, r, ww⟩ := S
  obtain ⟨ho, hsm⟩ := id h
  have hs0 : same nw nw r t ww := ⟨fun _ _ => rfl, hsm.2⟩
  unfold ex1 dsN
  rw [hch]
  rcases hso with rfl | rfl | rfl | rfl | rfl
  · rw [if_pos rfl, if_pos rfl, (c1 rfl).1, (c1 rfl).2]
    unfold exG dsG
    rw [bR_nIn (k := v) (by omega)]
    by_cases q : v < 64 ∧ bR (nI w) 0 255 = true
    · rw [if_pos q, if_pos ⟨decide_eq_true (by omega), q.2⟩]
      refine ⟨rfl, ?_⟩
      obtain ⟨a, b⟩ := rel_upd (c := v) (g := nI w) ho hs0 q.1 q.2
      refine ⟨a, same_c b (fun j hj => ?_)⟩
      show upd f (nI v).toNatClampNeg (nI w) j = upd nw v (nI w) j
      rw [nI_clamp (by omega)]
      unfold upd
      split
      · rfl
      · exact hsm.1 j hj
    · rw [if_neg q, if_neg (fun z => q ⟨by have := of_decide_eq_true z.1; omega, z.2⟩)]
      exact ⟨rfl, h⟩
  · rw [if_neg (by decide), if_pos rfl, if_neg (by decide), if_pos rfl]
    exact ⟨rfl, zR_mU h (fun x hx => inv_ok hx) (fun _ _ => rfl)⟩
  · rw [if_neg (by decide), if_neg (by decide), if_neg (by decide), if_pos rfl, if_neg (by decide), if_neg (by decide), if_pos rfl, c2 (Or.inl rfl)]
    unfold exH dsT
    by_cases q : bR (nI v) 1 255 = true
    · rw [if_pos q, if_pos q]
      exact ⟨rfl, zR_mU h (fun x hx => thw_ok q hx) (fun x hx => thw_eq q hx)⟩
    · rw [if_neg q, if_neg q]
      exact ⟨rfl, h⟩
  · rw [if_neg (by decide), if_neg (by decide), if_neg (by decide), if_neg (by decide), if_pos rfl, if_neg (by decide), if_neg (by decide), if_neg (by decide), if_pos rfl, ← hsm.2.2.2, one_m]
    refine ⟨rfl, ?_⟩
    obtain ⟨a, b⟩ := rel_win (v := !ww) ho hs0
    exact ⟨a, same_c b (fun j hj => hsm.1 j hj)⟩
  · rw [if_neg (by decide), if_neg (by decide), if_pos rfl, if_neg (by decide), if_neg (by decide), if_neg (by decide), if_neg (by decide), c2 (Or.inr rfl)]
    unfold exR dsR
    rw [bR_nIn (k := v) (by omega)]
    by_cases q : v ≤ 3
    · rw [if_pos q, if_pos (decide_eq_true (by omega))]
      refine ⟨rfl, ?_⟩
      obtain ⟨a, b⟩ := rel_rule (v := nI v) ho hs0 (bR_nI (by omega) (by omega) q)
      exact ⟨a, same_c b (fun j hj => hsm.1 j hj)⟩
    · rw [if_neg q, if_neg (fun z => q (by have := of_decide_eq_true z; omega))]
      exact ⟨rfl, h⟩
theorem exA_skip {T : Nat → Nat} {n b k : Nat} {S : exT} (hb : b ≤ n) : ∀ m a, b - a = m → a ≤ b → (∀ i, a ≤ i → i < b → bgc T n i = false) → exA T n (n - a) a k S = exA T n (n - b) b k S := by
  intro m
  induction m with
  | zero => intro a h1 h2 _; rw [show a = b from by omega]
  | succ m ih =>
    intro a h1 h2 h3
    rw [← ih (a + 1) (by omega) (by omega) (fun i h4 h5 => h3 i (by omega) h5)]
    exact exA_n (by omega) (h3 a (Nat.le_refl _) (by omega))
theorem bgc_f {T : Nat → Nat} {n i : Nat} (h0 : 0 < i) (h1 : i ≤ n) (h : ¬ T (i - 1) = 59) : bgc T n i = false := by
  unfold bgc chr
  rw [if_pos (by omega)]
  exact decide_eq_false (fun z => z.elim (by omega) h)
theorem rdl_keep {T : Nat → Nat} {n : Nat} : ∀ m b a td tl j, j < 3 * tl → (rdl T n m b a td tl).2.2.1 j = td j := by
  intro m
  induction m with
  | zero => intro b a td tl j _; rfl
  | succ m ih =>
    intro b a td tl j hj
    unfold rdl
    split
    · rw [ih _ _ _ _ j (by omega), tw_n _ _ _ hj]
    · rfl
theorem rdl_tl {T : Nat → Nat} {n : Nat} : ∀ m b a td tl, tl ≤ (rdl T n m b a td tl).2.2.2 := by
  intro m
  induction m with
  | zero => intro b a td tl; exact Nat.le_refl _
  | succ m ih =>
    intro b a td tl
    unfold rdl
    split
    · exact Nat.le_trans (Nat.le_succ _) (ih _ _ _ _)
    · exact Nat.le_refl _
theorem run_all {T : Nat → Nat} {n : Nat} (hT : ∀ j, T j < 128) {t : Int32} : ∀ m p td tl nw S, p ≤ n → n - p ≤ m → (p = 0 ∨ T (p - 1) = 59) → zR nw t S →
    rdB (rdl T n m (cmd T n p).1 (cmd T n p).2.1 (tw td tl (cmd T n p).2.2) (tl + 1)) n = true →
    (exA T n (n - p) p tl S).1 = (dol (rdl T n m (cmd T n p).1 (cmd T n p).2.1 (tw td tl (cmd T n p).2.2) (tl + 1)).2.2.1 ((rdl T n m (cmd T n p).1 (cmd T n p).2.1 (tw td tl (cmd T n p).2.2) (tl + 1)).2.2.2 - tl) tl nw).1 ∧
    zR (dol (rdl T n m (cmd T n p).1 (cmd T n p).2.1 (tw td tl (cmd T n p).2.2) (tl + 1)).2.2.1 ((rdl T n m (cmd T n p).1 (cmd T n p).2.1 (tw td tl (cmd T n p).2.2) (tl + 1)).2.2.2 - tl) tl nw).2 t (exA T n (n - p) p tl S).2 := by
  intro m
  induction m with
  | zero =>
    intro p td tl nw S hp hm _ _ hB
    have hpn : p = n := by omega
    have h1 : (cmd T n p).1 = true := by
      unfold rdB at hB
      rw [Bool.and_eq_true] at hB
      exact hB.1
    have := ((cmd_f hp hT).2 h1).1
    have := (cmd_f hp hT).1.2
    omega
  | succ m ih =>
    intro p td tl nw S hp hm hb hz hB
    have hc := cmd_f hp hT
    -- the command goes, and is followed by the end or by a semicolon
    have h1 : (cmd T n p).1 = true := by
      cases q : (cmd T n p).1 with
      | true => rfl
      | false =>
        rw [q, rdl_stop (fun z => Bool.false_ne_true z.1)] at hB
        exact absurd hB Bool.false_ne_true
    have he : (cmd T n p).2.1 = n ∨ T (cmd T n p).2.1 = 59 := by
      by_cases q : (cmd T n p).2.1 < n ∧ T (cmd T n p).2.1 = 59
      · exact Or.inr q.2
      · rw [rdl_stop (fun z => q z.2)] at hB
        unfold rdB at hB
        rw [Bool.and_eq_true] at hB
        exact Or.inl (of_decide_eq_true hB.2)
    obtain ⟨v, w, e1, e2, hcg⟩ := cmd_cgo hp hT h1 he
    obtain ⟨o1, o2⟩ := one_cmd hcg hz
    have hpn := hcg.1
    have hns := hcg.2.2.2.2.1
    have hpe := hcg.2.2.1
    have hen := hcg.2.2.2.1
    have hs9 := hcg.2.2.2.2.2.2.2.2.2
    have hv9 := hcg.2.2.2.2.2.1
    have hw9 := hcg.2.2.2.2.2.2.1
    have hbg : bgc T n p = true := by
      unfold bgc chr
      refine decide_eq_true ?_
      rcases hb with hb | hb
      · exact Or.inl hb
      · by_cases z : p = 0
        · exact Or.inl z
        · right; rw [if_pos (by omega)]; exact hb
    -- what is told at tl
    have k0 := rdl_keep (T := T) (n := n) (m + 1) (cmd T n p).1 (cmd T n p).2.1 (tw td tl (cmd T n p).2.2) (tl + 1)
    have ht0 := rdl_tl (T := T) (n := n) (m + 1) (cmd T n p).1 (cmd T n p).2.1 (tw td tl (cmd T n p).2.2) (tl + 1)
    have tS0 : tS (rdl T n (m + 1) (cmd T n p).1 (cmd T n p).2.1 (tw td tl (cmd T n p).2.2) (tl + 1)).2.2.1 tl = (cmd T n p).2.2.1 := by
      unfold tS; rw [k0 _ (by omega), tw_0]; exact nI_clamp (by unfold sorts at hs9; omega)
    have tV0 : tV (rdl T n (m + 1) (cmd T n p).1 (cmd T n p).2.1 (tw td tl (cmd T n p).2.2) (tl + 1)).2.2.1 tl = v := by
      unfold tV; rw [k0 _ (by omega), tw_1, e1]; exact nI_clamp (by omega)
    have tW0 : tW (rdl T n (m + 1) (cmd T n p).1 (cmd T n p).2.1 (tw td tl (cmd T n p).2.2) (tl + 1)).2.2.1 tl = w := by
      unfold tW; rw [k0 _ (by omega), tw_2, e2]; exact nI_clamp (by omega)
    cases hg : (ex1 T n p S).1 with
    | false =>
      have hg2 : ¬ (ex1 T n p S).1 = true := by rw [hg]; exact Bool.false_ne_true
      rw [exA_f hpn hbg hg]
      rw [dol_n (by omega) (by rw [tS0, tV0, tW0, ← o1, hg]), tS0, tV0, tW0]
      exact ⟨rfl, o2⟩
    | true =>
      rw [exA_t hpn hbg hg]
      rw [dol_t (by omega) (by rw [tS0, tV0, tW0, ← o1, hg]), tS0, tV0, tW0]
      have nsk : ∀ b, b ≤ (cmd T n p).2.1 → ∀ i, p + 1 ≤ i → i < b + 1 → i ≤ n → bgc T n i = false := fun b hb i i1 i2 i3 => bgc_f (by omega) i3 (hns (i - 1) (by omega) (by omega))
      by_cases hend : (cmd T n p).2.1 = n
      · rw [exA_skip (b := n) (Nat.le_refl _) (n - (p + 1)) (p + 1) rfl (by omega) (fun i i1 i2 => nsk n (by omega) i i1 (by omega) (by omega))]
        rw [h1, rdl_stop (fun z => by have := z.2.1; omega)] at *
        rw [Nat.sub_self, Nat.sub_self]
        exact ⟨rfl, o2⟩
      · have h59 : T (cmd T n p).2.1 = 59 := he.resolve_left hend
        rw [exA_skip (b := (cmd T n p).2.1 + 1) (by omega) ((cmd T n p).2.1 + 1 - (p + 1)) (p + 1) rfl (by omega) (fun i i1 i2 => nsk (cmd T n p).2.1 (Nat.le_refl _) i i1 i2 (by omega))]
        have hgo := rdl_go (T := T) (n := n) (m := m + 1) (b := (cmd T n p).1) (a := (cmd T n p).2.1) (td := tw td tl (cmd T n p).2.2) (tl := tl + 1) (by omega) ⟨h1, by omega, h59⟩
        rw [Nat.add_sub_cancel] at hgo
        rw [hgo] at hB ⊢
        exact ih ((cmd T n p).2.1 + 1) (tw td tl (cmd T n p).2.2) (tl + 1) _ _ (by omega) (by omega) (Or.inr (by rw [Nat.add_sub_cancel]; exact h59)) o2 hB
theorem runs {T : Nat → Nat} {n : Nat} (hT : ∀ j, T j < 128) {t : Int32} {td nw f : Nat → Int32} {r : Int32} {w : Bool} (ho : okA nw) (hs : same nw f r t w) (hB : rdB (rdA T n td) n = true) :
    (exA T n n 0 0 (f, r, w)).1 = (dol (rdA T n td).2.2.1 (rdA T n td).2.2.2 0 nw).1 ∧ okA (dol (rdA T n td).2.2.1 (rdA T n td).2.2.2 0 nw).2 ∧ same (dol (rdA T n td).2.2.1 (rdA T n td).2.2.2 0 nw).2 (exA T n n 0 0 (f, r, w)).2.1 (exA T n n 0 0 (f, r, w)).2.2.1 t (exA T n n 0 0 (f, r, w)).2.2.2 := by
  have h := run_all (T := T) (n := n) hT (t := t) n 0 td 0 nw (f, r, w) (Nat.zero_le _) (by omega) (Or.inl rfl) ⟨ho, hs⟩ hB
  exact ⟨h.1, h.2.1, h.2.2⟩
end G13
