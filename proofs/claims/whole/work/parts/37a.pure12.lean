/-! the pure words, twelfth: the text's grammar and its parser -/
section G12
def fA (T : Nat → Nat) (n s i : Nat) : Int32 := ferr T (n - i) s i
theorem aw_of {s ch s' : Nat} (e : awI s ch = nI s') (hs : s' < 10) : aw s ch = s' := by unfold aw; rw [e]; exact nI_clamp (by omega)
theorem fA_go {T : Nat → Nat} {n s s' i : Nat} (h : i < n) (e : awI s (T i) = nI s') (hs : s' < 10) : fA T n s i = fA T n s' (i + 1) := by
  unfold fA
  rw [show n - i = n - (i + 1) + 1 from by omega, ferr_n (by rw [e]; exact nI_nm1 (by omega)), aw_of e hs]
theorem fA_no {T : Nat → Nat} {n s i : Nat} (h : i < n) (e : awI s (T i) = -1) : fA T n s i = nI i := by
  unfold fA
  rw [show n - i = n - (i + 1) + 1 from by omega, ferr_t e]
theorem fA_end {T : Nat → Nat} {n s : Nat} : fA T n s n = if s = 9 ∨ s = 6 ∨ s = 7 then -1 else nI n := by
  unfold fA; rw [Nat.sub_self]; rfl
def dgt (T : Nat → Nat) (n i : Nat) : Prop := i < n ∧ bR (nI (T i)) 48 57 = true
theorem dgt_iff {T : Nat → Nat} (hT : ∀ j, T j < 128) (i : Nat) : bR (nI (T i)) 48 57 = true ↔ 48 ≤ T i ∧ T i ≤ 57 := by
  have := hT i
  rw [bR_t, nI_toInt (by omega)]; omega
theorem dgI_y {ch s : Nat} (h : bR (nI ch) 48 57 = true) : dgI ch s = nI s := if_pos h
theorem dgI_n {ch s : Nat} (h : ¬ bR (nI ch) 48 57 = true) : dgI ch s = -1 := if_neg h
/-- the end of a number: what the grammar says there -/
def nend (T : Nat → Nat) (n s1 a b s2 s3 s4 cst nxt : Nat) : Prop :=
  ∃ s, (s = s2 ∨ s = s3 ∨ s = s4) ∧ fA T n s1 a = fA T n s b ∧ a < b ∧ b ≤ n ∧ (b < n → ¬ T b = cst → fA T n s b = nI b) ∧ (b < n → T b = cst → fA T n s b = fA T n nxt (b + 1)) ∧ (∀ j, a ≤ j → j < b → 48 ≤ T j ∧ T j ≤ 57)
theorem num_end {T : Nat → Nat} {n s1 a s2 s3 s4 cst nxt : Nat} (hT : ∀ j, T j < 128) (hc : 57 < cst) (h10 : s2 < 10 ∧ s3 < 10 ∧ s4 < 10 ∧ nxt < 10)
    (e1 : ∀ ch, awI s1 ch = nuI ch s4 s2) (e2 : ∀ ch, awI s2 ch = if ch = cst then nI nxt else dgI ch s3) (e3 : ∀ ch, awI s3 ch = if ch = cst then nI nxt else dgI ch s4) (e4 : ∀ ch, awI s4 ch = if ch = cst then nI nxt else -1)
    (hd : dgt T n a) : nend T n s1 a (nm1 T n 999 a).2 s2 s3 s4 cst nxt := by
  have d1 := (dgt_iff hT a).mp hd.2
  have ha := hd.1
  have q2 : ∀ i, i < n → ¬ bR (nI (T i)) 48 57 = true → ¬ T i = cst → fA T n s2 i = nI i := fun i hi h1 h2 => fA_no hi (by rw [e2, if_neg h2]; exact dgI_n h1)
  have q3 : ∀ i, i < n → ¬ bR (nI (T i)) 48 57 = true → ¬ T i = cst → fA T n s3 i = nI i := fun i hi h1 h2 => fA_no hi (by rw [e3, if_neg h2]; exact dgI_n h1)
  have q4 : ∀ i, i < n → ¬ T i = cst → fA T n s4 i = nI i := fun i hi h2 => fA_no hi (by rw [e4, if_neg h2])
  have y2 : ∀ i, i < n → T i = cst → fA T n s2 i = fA T n nxt (i + 1) := fun i hi h2 => fA_go hi (by rw [e2, if_pos h2]) h10.2.2.2
  have y3 : ∀ i, i < n → T i = cst → fA T n s3 i = fA T n nxt (i + 1) := fun i hi h2 => fA_go hi (by rw [e3, if_pos h2]) h10.2.2.2
  have y4 : ∀ i, i < n → T i = cst → fA T n s4 i = fA T n nxt (i + 1) := fun i hi h2 => fA_go hi (by rw [e4, if_pos h2]) h10.2.2.2
  by_cases z : T a = 48
  · have hm : nm1 T n 999 a = (0, a + 1) := by
      unfold nm1; rw [z]; exact nlp_stop (fun h => absurd h.1 (by omega))
    rw [hm]
    refine ⟨s4, Or.inr (Or.inr rfl), fA_go ha (by rw [e1]; exact if_pos z) h10.2.2.1, by omega, ha, fun h => q4 _ h, fun h => y4 _ h, fun j h1 h2 => ?_⟩
    rw [show j = a from by omega]; exact d1
  · have g1 : fA T n s1 a = fA T n s2 (a + 1) := fA_go ha (by rw [e1]; exact (if_neg z).trans (dgI_y hd.2)) h10.1
    by_cases h2 : a + 1 < n ∧ bR (nI (T (a + 1))) 48 57 = true
    · have d2 := (dgt_iff hT (a + 1)).mp h2.2
      have g2 : fA T n s2 (a + 1) = fA T n s3 (a + 2) := fA_go h2.1 (by rw [e2, if_neg (by omega)]; exact dgI_y h2.2) h10.2.1
      have m2 : nm1 T n 999 a = nlp T n 999 (n - (a + 2)) (a + 2) (10 * (T a - 48) + T (a + 1) - 48) := by
        unfold nm1; exact nlp_go (by omega) h2.1 h2.2 (by omega)
      by_cases h3 : a + 2 < n ∧ bR (nI (T (a + 2))) 48 57 = true
      · have d3 := (dgt_iff hT (a + 2)).mp h3.2
        have g3 : fA T n s3 (a + 2) = fA T n s4 (a + 3) := fA_go h3.1 (by rw [e3, if_neg (by omega)]; exact dgI_y h3.2) h10.2.2.1
        have m3 : nm1 T n 999 a = (10 * (10 * (T a - 48) + T (a + 1) - 48) + T (a + 2) - 48, a + 3) := by
          rw [m2, nlp_go (by omega) h3.1 h3.2 (by omega)]
          exact nlp_stop (fun h => by
            have d4 := (dgt_iff hT (a + 2 + 1)).mp h.2.2.1
            omega)
        rw [m3]
        refine ⟨s4, Or.inr (Or.inr rfl), g1.trans (g2.trans g3), by omega, by omega, fun h => q4 _ h, fun h => y4 _ h, fun j j1 j2 => ?_⟩
        rcases (show j = a ∨ j = a + 1 ∨ j = a + 2 by have : j < a + 3 := j2; omega) with rfl | rfl | rfl
        · exact d1
        · exact d2
        · exact d3
      · have m3 : nm1 T n 999 a = (10 * (T a - 48) + T (a + 1) - 48, a + 2) := by
          rw [m2]; exact nlp_stop (fun h => h3 ⟨h.2.1, h.2.2.1⟩)
        rw [m3]
        refine ⟨s3, Or.inr (Or.inl rfl), g1.trans g2, by omega, by omega, fun h => q3 _ h (fun z => h3 ⟨h, z⟩), fun h => y3 _ h, fun j j1 j2 => ?_⟩
        rcases (show j = a ∨ j = a + 1 by have : j < a + 2 := j2; omega) with rfl | rfl
        · exact d1
        · exact d2
    · have m2 : nm1 T n 999 a = (T a - 48, a + 1) := by
        unfold nm1; exact nlp_stop (fun h => h2 ⟨h.2.1, h.2.2.1⟩)
      rw [m2]
      refine ⟨s2, Or.inl rfl, g1, by omega, ha, fun h => q2 _ h (fun z => h2 ⟨h, z⟩), fun h => y2 _ h, fun j j1 j2 => ?_⟩
      have j2 : j < a + 1 := j2
      rw [show j = a from by omega]; exact d1
theorem num_no {T : Nat → Nat} {n s a s2 s4 : Nat} (ha : a ≤ n) (hs : ¬ (s = 9 ∨ s = 6 ∨ s = 7)) (e1 : ∀ ch, awI s ch = nuI ch s4 s2) (hd : ¬ dgt T n a) : fA T n s a = nI a := by
  by_cases h : a < n
  · refine fA_no h ?_
    rw [e1]
    have h2 : ¬ bR (nI (T a)) 48 57 = true := fun z => hd ⟨h, z⟩
    have h3 : ¬ T a = 48 := fun z => h2 (by rw [z]; decide +kernel)
    exact (if_neg h3).trans (dgI_n h2)
  · rw [show a = n from by omega, fA_end, if_neg hs]
/-- behind a command -/
def gb (T : Nat → Nat) (n a : Nat) : Int32 := if a = n then -1 else if T a = 59 then fA T n 0 (a + 1) else nI a
theorem gb_of {T : Nat → Nat} {n s a : Nat} (hs : s = 9 ∨ s = 6 ∨ s = 7) (ha : a ≤ n) (h1 : a < n → ¬ T a = 59 → fA T n s a = nI a) (h2 : a < n → T a = 59 → fA T n s a = fA T n 0 (a + 1)) : fA T n s a = gb T n a := by
  unfold gb
  by_cases h : a = n
  · rw [if_pos h, h, fA_end, if_pos hs]
  · rw [if_neg h]
    by_cases e : T a = 59
    · rw [if_pos e]; exact h2 (by omega) e
    · rw [if_neg e]; exact h1 (by omega) e
theorem s9_gb {T : Nat → Nat} {n a : Nat} (ha : a ≤ n) : fA T n 9 a = gb T n a := gb_of (Or.inl rfl) ha (fun h e => fA_no h (if_neg e)) (fun h e => fA_go h (if_pos e) (by omega))
theorem cmI_y {T : Nat → Nat} {n a s : Nat} (h : a < n) (e : cmI (T a) = nI s) (hs : s < 10) : fA T n 0 a = fA T n s (a + 1) := fA_go h e hs
/-- a command, by the grammar and by the parser -/
theorem cmd_g {T : Nat → Nat} {n a : Nat} (ha : a ≤ n) (hT : ∀ j, T j < 128) : fA T n 0 a = if (cmd T n a).1 = true then gb T n (cmd T n a).2.1 else nI (cmd T n a).2.1 := by
  unfold cmd
  by_cases h1 : a < n ∧ T a = 103
  · rw [if_pos h1, cmI_y (s := 1) h1.1 (by rw [h1.2]; decide +kernel) (by omega)]
    by_cases h2 : a + 1 < n ∧ bR (nI (T (a + 1))) 48 57 = true
    · rw [if_pos h2]
      obtain ⟨s, hs, f1, f2, f3, f4, f5, f6⟩ := num_end (T := T) (n := n) (s1 := 1) (a := a + 1) (s2 := 2) (s3 := 3) (s4 := 4) (cst := 61) (nxt := 5) hT (by omega) (by omega) (fun _ => rfl) (fun _ => rfl) (fun _ => rfl) (fun _ => rfl) h2
      rw [f1]
      by_cases h3 : (nm1 T n 999 (a + 1)).2 < n ∧ T (nm1 T n 999 (a + 1)).2 = 61
      · rw [if_pos h3, f5 h3.1 h3.2]
        by_cases h4 : (nm1 T n 999 (a + 1)).2 + 1 < n ∧ bR (nI (T ((nm1 T n 999 (a + 1)).2 + 1))) 48 57 = true
        · rw [if_pos h4]
          obtain ⟨s9, hs9, g1, g2, g3, g4, g5, g6⟩ := num_end (T := T) (n := n) (s1 := 5) (a := (nm1 T n 999 (a + 1)).2 + 1) (s2 := 6) (s3 := 7) (s4 := 9) (cst := 59) (nxt := 0) hT (by omega) (by omega) (fun _ => rfl) (fun _ => rfl) (fun _ => rfl) (fun _ => rfl) h4
          rw [g1]
          exact (gb_of (by omega) g3 g4 g5).trans (if_pos rfl).symm
        · rw [if_neg h4]
          exact (num_no (s2 := 6) (s4 := 9) (by omega) (by omega) (fun _ => rfl) h4).trans (if_neg Bool.false_ne_true).symm
      · rw [if_neg h3]
        refine Eq.trans ?_ (if_neg Bool.false_ne_true).symm
        show fA T n s (nm1 T n 999 (a + 1)).2 = nI (nm1 T n 999 (a + 1)).2
        by_cases h5 : (nm1 T n 999 (a + 1)).2 < n
        · exact f4 h5 (fun z => h3 ⟨h5, z⟩)
        · have h6 : (nm1 T n 999 (a + 1)).2 = n := by omega
          rw [h6, fA_end, if_neg (by omega)]
    · rw [if_neg h2]
      exact (num_no (s2 := 2) (s4 := 4) (by omega) (by omega) (fun _ => rfl) h2).trans (if_neg Bool.false_ne_true).symm
  · rw [if_neg h1]
    by_cases h2 : a < n ∧ T a = 105
    · rw [if_pos h2, cmI_y (s := 9) h2.1 (by rw [h2.2]; decide +kernel) (by omega)]
      exact (s9_gb (by omega)).trans (if_pos rfl).symm
    · rw [if_neg h2]
      by_cases h3 : a < n ∧ T a = 116
      · rw [if_pos h3, cmI_y (s := 5) h3.1 (by rw [h3.2]; decide +kernel) (by omega)]
        by_cases h4 : a + 1 < n ∧ bR (nI (T (a + 1))) 48 57 = true
        · rw [if_pos h4]
          obtain ⟨s9, hs9, g1, g2, g3, g4, g5, g6⟩ := num_end (T := T) (n := n) (s1 := 5) (a := a + 1) (s2 := 6) (s3 := 7) (s4 := 9) (cst := 59) (nxt := 0) hT (by omega) (by omega) (fun _ => rfl) (fun _ => rfl) (fun _ => rfl) (fun _ => rfl) h4
          rw [g1]
          exact (gb_of (by omega) g3 g4 g5).trans (if_pos rfl).symm
        · rw [if_neg h4]
          exact (num_no (s2 := 6) (s4 := 9) (by omega) (by omega) (fun _ => rfl) h4).trans (if_neg Bool.false_ne_true).symm
      · rw [if_neg h3]
        by_cases h4 : a < n ∧ T a = 119
        · rw [if_pos h4, cmI_y (s := 9) h4.1 (by rw [h4.2]; decide +kernel) (by omega)]
          exact (s9_gb (by omega)).trans (if_pos rfl).symm
        · rw [if_neg h4]
          by_cases h5 : a < n ∧ T a = 114
          · rw [if_pos h5, cmI_y (s := 8) h5.1 (by rw [h5.2]; decide +kernel) (by omega)]
            by_cases h6 : a + 1 < n ∧ bR (nI (T (a + 1))) 48 57 = true
            · rw [if_pos h6]
              have d := (dgt_iff hT (a + 1)).mp h6.2
              have hm : nm1 T n 9 (a + 1) = (T (a + 1) - 48, a + 2) := by
                unfold nm1; exact nlp_stop (fun z => by have := (dgt_iff hT (a + 1 + 1)).mp z.2.2.1; omega)
              rw [hm, fA_go (T := T) (n := n) (s := 8) (s' := 9) h6.1 (show awI 8 (T (a + 1)) = nI 9 from dgI_y h6.2) (by omega)]
              exact (s9_gb (by omega)).trans (if_pos rfl).symm
            · rw [if_neg h6]
              refine Eq.trans ?_ (if_neg Bool.false_ne_true).symm
              show fA T n 8 (a + 1) = nI (a + 1)
              by_cases h7 : a + 1 < n
              · exact fA_no h7 (dgI_n (fun z => h6 ⟨h7, z⟩))
              · rw [show a + 1 = n from by omega, fA_end, if_neg (by omega)]
          · rw [if_neg h5]
            refine Eq.trans ?_ (if_neg Bool.false_ne_true).symm
            show fA T n 0 a = nI a
            by_cases h7 : a < n
            · refine fA_no h7 ?_
              show cmI (T a) = -1
              unfold cmI
              rw [if_neg (fun z => h1 ⟨h7, z⟩), if_neg (fun z => h3 ⟨h7, z⟩), if_neg (fun z => h5 ⟨h7, z⟩), if_neg (fun z => z.elim (fun y => h2 ⟨h7, y⟩) (fun y => h4 ⟨h7, y⟩))]
            · rw [show a = n from by omega, fA_end, if_neg (by omega)]
theorem rdl_g {T : Nat → Nat} {n : Nat} (hT : ∀ j, T j < 128) : ∀ m b a td tl, a ≤ n → n - a ≤ m → rdI (rdl T n m b a td tl) n = if b = true then gb T n a else nI a := by
  intro m
  have stop : ∀ (b : Bool) a td tl, a ≤ n → ¬ (b = true ∧ a < n ∧ T a = 59) → rdI (b, a, td, tl) n = if b = true then gb T n a else nI a := by
    intro b a td tl ha h
    unfold rdI rdB gb
    cases b with
    | false => rw [if_neg Bool.false_ne_true]; exact if_neg Bool.false_ne_true
    | true =>
      rw [if_pos rfl]
      show (if (true && decide (a = n)) = true then (-1 : Int32) else nI a) = _
      rw [Bool.true_and]
      by_cases e : a = n
      · rw [if_pos e, if_pos (decide_eq_true e)]
      · rw [if_neg e, if_neg (by rw [decide_eq_false e]; exact Bool.false_ne_true), if_neg (fun z => h ⟨rfl, by omega, z⟩)]
  induction m with
  | zero => intro b a td tl ha hm; exact stop b a td tl ha (fun z => by omega)
  | succ m ih =>
    intro b a td tl ha hm
    by_cases h : b = true ∧ a < n ∧ T a = 59
    · rw [rdl_go (by omega) h, Nat.add_sub_cancel]
      have hc := cmd_f (T := T) (n := n) (a := a + 1) (by omega) hT
      rw [ih _ _ _ _ hc.1.2 (by have := hc.1.1; omega), ← cmd_g (by omega) hT, if_pos h.1]
      unfold gb
      rw [if_neg (by omega), if_pos h.2.2]
    · rw [rdl_stop h]; exact stop b a td tl ha h
theorem ferr_rd {T : Nat → Nat} {n : Nat} (hT : ∀ j, T j < 128) (td : Nat → Int32) : ferr T n 0 0 = rdI (rdA T n td) n := by
  have hc := cmd_f (T := T) (n := n) (a := 0) (Nat.zero_le _) hT
  unfold rdA
  rw [rdl_g hT _ _ _ _ _ hc.1.2 (by omega), ← cmd_g (Nat.zero_le _) hT]
  rfl
theorem rdl_at {T : Nat → Nat} {n : Nat} (hT : ∀ j, T j < 128) : ∀ m b a td tl, a ≤ n → (rdl T n m b a td tl).2.1 ≤ n := by
  intro m
  induction m with
  | zero => intro b a td tl ha; exact ha
  | succ m ih =>
    intro b a td tl ha
    unfold rdl
    split
    · exact ih _ _ _ _ (cmd_f (T := T) (n := n) (a := a + 1) (by omega) hT).1.2
    · exact ha
theorem rdB_ferr {T : Nat → Nat} {n : Nat} (hn : n ≤ 80) (hT : ∀ j, T j < 128) (td : Nat → Int32) : rdB (rdA T n td) n = true ↔ ferr T n 0 0 = -1 := by
  rw [ferr_rd hT td]
  unfold rdI
  have hlen := rdl_at hT n (cmd T n 0).1 (cmd T n 0).2.1 (tw td 0 (cmd T n 0).2.2) (0 + 1) (cmd_f (T := T) (n := n) (a := 0) (Nat.zero_le _) hT).1.2
  constructor
  · intro h; rw [if_pos h]
  · intro h
    by_cases q : rdB (rdA T n td) n = true
    · exact q
    · rw [if_neg q] at h
      exact absurd h (nI_nm1 (by unfold rdA; omega))
end G12
