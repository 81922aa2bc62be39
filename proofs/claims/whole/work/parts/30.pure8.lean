/-! the pure words, eighth: what ties the class's state to the reference's -/
section G8
def okA (a : Nat → Int32) : Prop := (∀ j, j < 64 → bR (a j) 0 255 = true) ∧ (∃ r, r < 4 ∧ a 64 = nI r) ∧ bR (a 65) 1 255 = true ∧ ∃ w, a 66 = gB w
def same (a f : Nat → Int32) (r t : Int32) (w : Bool) : Prop := (∀ j, j < 64 → f j = a j) ∧ r = a 64 ∧ t = a 65 ∧ gB w = a 66
theorem okA.cong {a b : Nat → Int32} (h : okA a) (e : ∀ j, j < 67 → b j = a j) : okA b := by
  obtain ⟨h1, ⟨r, h2, h3⟩, h4, w, h5⟩ := h
  exact ⟨fun j hj => by rw [e j (by omega)]; exact h1 j hj, ⟨r, h2, (e 64 (by omega)).trans h3⟩, by rw [e 65 (by omega)]; exact h4, w, (e 66 (by omega)).trans h5⟩
theorem same.cong {a b f : Nat → Int32} {r t : Int32} {w : Bool} (h : same a f r t w) (e : ∀ j, j < 67 → b j = a j) : same b f r t w := by
  obtain ⟨h1, h2, h3, h4⟩ := h
  exact ⟨fun j hj => (h1 j hj).trans (e j (by omega)).symm, h2.trans (e 64 (by omega)).symm, h3.trans (e 65 (by omega)).symm, h4.trans (e 66 (by omega)).symm⟩
def hisR (ps : Nat → Int32) (n o : Nat) (F : Nat → Nat → Int32) (Rr Tt : Nat → Int32) (Ww : Nat → Bool) : Prop :=
  ∀ k, k < n → okA (fun j => ps (67 * k + j)) ∧ same (fun j => ps (67 * k + j)) (F ((k + o) % 6)) (Rr ((k + o) % 6)) (Tt ((k + o) % 6)) (Ww ((k + o) % 6))
def sloR (sl hs : Nat → Int32) (SF : Nat → Nat → Int32) (SR ST : Nat → Int32) (SW sv : Nat → Bool) : Prop :=
  ∀ k, k < 2 → hs k = gB (sv k) ∧ (sv k = true → okA (fun j => sl (67 * k + j)) ∧ same (fun j => sl (67 * k + j)) (SF k) (SR k) (ST k) (SW k))
abbrev Rel (nw ps sl hs : Nat → Int32) (T : Nat → Nat) (tn n o : Nat) (f : Nat → Int32) (r t : Int32) (w : Bool) (F : Nat → Nat → Int32) (Rr Tt : Nat → Int32) (Ww : Nat → Bool) (SF : Nat → Nat → Int32) (SR ST : Nat → Int32) (SW sv : Nat → Bool) : Prop := okA nw ∧ same nw f r t w ∧ n ≤ 6 ∧ hisR ps n o F Rr Tt Ww ∧ sloR sl hs SF SR ST SW sv ∧ tn ≤ 80 ∧ ∀ j, T j < 128
section
variable {nw ps sl hs : Nat → Int32} {T : Nat → Nat} {tn n o : Nat} {f : Nat → Int32} {r t : Int32} {w : Bool} {F : Nat → Nat → Int32} {Rr Tt : Nat → Int32} {Ww : Nat → Bool} {SF : Nat → Nat → Int32} {SR ST : Nat → Int32} {SW sv : Nat → Bool}
theorem kJ {n o : Nat} (h : n ≤ 6) : (kN n - 1 + kO n o) % 6 = (if n = 6 then o % 6 else (n + o) % 6) := by
  unfold kN kO
  by_cases h6 : n = 6
  · rw [if_pos h6, if_pos h6, if_pos h6]; omega
  · rw [if_neg h6, if_neg h6, if_neg h6, Nat.add_sub_cancel]
theorem kP_old {ps nw : Nat → Int32} {n k : Nat} (h6 : n ≤ 6) (hk : k + 1 < kN n) {j : Nat} (hj : j < 67) : kP ps nw n (67 * k + j) = ps (67 * (if n = 6 then k + 1 else k) + j) := by
  unfold kP
  unfold kN at hk
  by_cases h : n = 6
  · rw [if_pos h] at hk
    rw [if_pos h, if_pos h]
    unfold va_cpy shl
    rw [if_neg (by omega), if_pos (by omega), show 67 * k + j + 67 = 67 * (k + 1) + j from by omega]
  · rw [if_neg h] at hk
    rw [if_neg h, if_neg h]
    unfold va_cpy
    rw [if_neg (by omega)]
theorem kP_new {ps nw : Nat → Int32} {n : Nat} (h6 : n ≤ 6) {j : Nat} (hj : j < 67) : kP ps nw n (67 * (kN n - 1) + j) = nw j := by
  unfold kP kN
  by_cases h : n = 6
  · rw [if_pos h, if_pos h]
    unfold va_cpy
    rw [if_pos (by omega)]
    exact congrArg nw (by omega)
  · rw [if_neg h, if_neg h]
    unfold va_cpy
    rw [if_pos (by omega)]
    exact congrArg nw (by omega)
theorem hisR.keep (hR : Rel nw ps sl hs T tn n o f r t w F Rr Tt Ww SF SR ST SW sv) : hisR (kP ps nw n) (kN n) (kO n o) (pset F ((kN n - 1 + kO n o) % 6) f) (pset Rr ((kN n - 1 + kO n o) % 6) r) (pset Tt ((kN n - 1 + kO n o) % 6) t) (pset Ww ((kN n - 1 + kO n o) % 6) w) := by
  have h6 := hR.2.2.1
  intro k hk
  by_cases h : k + 1 = kN n
  · have e : k = kN n - 1 := by omega
    subst e
    unfold pset
    rw [if_pos rfl, if_pos rfl, if_pos rfl, if_pos rfl]
    exact ⟨hR.1.cong (fun j hj => kP_new h6 hj), hR.2.1.cong (fun j hj => kP_new h6 hj)⟩
  · have hk1 : k + 1 < kN n := by omega
    have hk6 : kN n ≤ 6 := by unfold kN; split <;> omega
    have hne : ¬ (k + kO n o) % 6 = (kN n - 1 + kO n o) % 6 := by
      generalize kO n o = z at *
      omega
    unfold pset
    rw [if_neg hne, if_neg hne, if_neg hne, if_neg hne]
    have hq := hR.2.2.2.1 (if n = 6 then k + 1 else k) (by unfold kN at hk1; split at hk1 <;> split <;> omega)
    have hix : ((if n = 6 then k + 1 else k) + o) % 6 = (k + kO n o) % 6 := by unfold kO; split <;> omega
    rw [hix] at hq
    exact ⟨hq.1.cong (fun j hj => kP_old h6 hk1 hj), hq.2.cong (fun j hj => kP_old h6 hk1 hj)⟩
theorem Rel.keep (hR : Rel nw ps sl hs T tn n o f r t w F Rr Tt Ww SF SR ST SW sv) {nw' f' : Nat → Int32} {r' t' : Int32} {w' : Bool} (ho : okA nw') (hs' : same nw' f' r' t' w') : Rel nw' (kP ps nw n) sl hs T tn (kN n) (kO n o) f' r' t' w' (pset F ((kN n - 1 + kO n o) % 6) f) (pset Rr ((kN n - 1 + kO n o) % 6) r) (pset Tt ((kN n - 1 + kO n o) % 6) t) (pset Ww ((kN n - 1 + kO n o) % 6) w) SF SR ST SW sv :=
  ⟨ho, hs', by unfold kN; have := hR.2.2.1; split <;> omega, hisR.keep hR, hR.2.2.2.2.1, hR.2.2.2.2.2.1, hR.2.2.2.2.2.2⟩
theorem Rel.text (hR : Rel nw ps sl hs T tn n o f r t w F Rr Tt Ww SF SR ST SW sv) {T' : Nat → Nat} {tn' : Nat} (h1 : tn' ≤ 80) (h2 : ∀ j, T' j < 128) : Rel nw ps sl hs T' tn' n o f r t w F Rr Tt Ww SF SR ST SW sv := ⟨hR.1, hR.2.1, hR.2.2.1, hR.2.2.2.1, hR.2.2.2.2.1, h1, h2⟩
theorem cpy_in {f g : Nat → Int32} {a j : Nat} (hj : j < 67) : va_cpy f g a 0 67 j = f (a + j) := by
  unfold va_cpy; rw [if_pos (by omega), Nat.sub_zero]
theorem Rel.undo (hR : Rel nw ps sl hs T tn n o f r t w F Rr Tt Ww SF SR ST SW sv) (h0 : 0 < n) : Rel (va_cpy ps nw (67 * (n - 1)) 0 67) ps sl hs T tn (n - 1) o (F ((n - 1 + o) % 6)) (Rr ((n - 1 + o) % 6)) (Tt ((n - 1 + o) % 6)) (Ww ((n - 1 + o) % 6)) F Rr Tt Ww SF SR ST SW sv := by
  obtain ⟨h1, h2⟩ := hR.2.2.2.1 (n - 1) (by omega)
  exact ⟨h1.cong (fun j hj => cpy_in hj), h2.cong (fun j hj => cpy_in hj), by have := hR.2.2.1; omega, fun k hk => hR.2.2.2.1 k (by omega), hR.2.2.2.2.1, hR.2.2.2.2.2.1, hR.2.2.2.2.2.2⟩
theorem cpy_out {f g : Nat → Int32} {a j : Nat} (hj : ¬ (a ≤ j ∧ j < a + 67)) : va_cpy f g 0 a 67 j = g j := by unfold va_cpy; rw [if_neg hj]
theorem cpy_at {f g : Nat → Int32} {a j : Nat} (hj : j < 67) : va_cpy f g 0 a 67 (a + j) = f j := by
  unfold va_cpy; rw [if_pos (by omega)]; congr 1; omega
theorem Rel.save (hR : Rel nw ps sl hs T tn n o f r t w F Rr Tt Ww SF SR ST SW sv) {s9 : Nat} (h9 : s9 < 2) : Rel nw ps (va_cpy nw sl 0 (67 * s9) 67) (upd hs s9 (nI 1)) T tn n o f r t w F Rr Tt Ww (pset SF s9 f) (pset SR s9 r) (pset ST s9 t) (pset SW s9 w) (pset sv s9 true) := by
  refine ⟨hR.1, hR.2.1, hR.2.2.1, hR.2.2.2.1, fun k hk => ?_, hR.2.2.2.2.2.1, hR.2.2.2.2.2.2⟩
  by_cases h : k = s9
  · subst h
    unfold pset upd
    rw [if_pos rfl, if_pos rfl, if_pos rfl, if_pos rfl, if_pos rfl, if_pos rfl]
    exact ⟨gB_t, fun _ => ⟨hR.1.cong (fun j hj => cpy_at hj), hR.2.1.cong (fun j hj => cpy_at hj)⟩⟩
  · unfold pset upd
    rw [if_neg h, if_neg h, if_neg h, if_neg h, if_neg h, if_neg h]
    obtain ⟨h1, h2⟩ := hR.2.2.2.2.1 k hk
    refine ⟨h1, fun q => ?_⟩
    obtain ⟨h3, h4⟩ := h2 q
    exact ⟨h3.cong (fun j hj => cpy_out (by omega)), h4.cong (fun j hj => cpy_out (by omega))⟩
theorem Rel.load (hR : Rel nw ps sl hs T tn n o f r t w F Rr Tt Ww SF SR ST SW sv) {s9 : Nat} (h9 : s9 < 2) (hz : sv s9 = true) : okA (va_cpy sl nw (67 * s9) 0 67) ∧ same (va_cpy sl nw (67 * s9) 0 67) (SF s9) (SR s9) (ST s9) (SW s9) := by
  obtain ⟨h3, h4⟩ := (hR.2.2.2.2.1 s9 h9).2 hz
  exact ⟨h3.cong (fun j hj => cpy_in hj), h4.cong (fun j hj => cpy_in hj)⟩
theorem isum_c {f g : Nat → Int32} {n : Nat} (h : ∀ j, j < n → f j = g j) : isum f n = isum g n := by
  induction n with
  | zero => rfl
  | succ n ih => show isum f n + f n = isum g n + g n; rw [ih (fun j hj => h j (by omega)), h n (by omega)]
end
/-- a change of the greys, of the rule, of the threshold, of the winding -/
theorem ok_grey {nw f' : Nat → Int32} {r t : Int32} {w : Bool} (ho : okA nw) (hs : same nw nw r t w) (h1 : ∀ j, j < 64 → bR (f' j) 0 255 = true) (h2 : ∀ j, 64 ≤ j → f' j = nw j) : okA f' ∧ same f' f' r t w := by
  obtain ⟨_, ⟨r0, h3, h4⟩, h5, w0, h6⟩ := ho
  obtain ⟨_, e1, e2, e3⟩ := hs
  refine ⟨⟨h1, ⟨r0, h3, (h2 64 (by omega)).trans h4⟩, by rw [h2 65 (by omega)]; exact h5, w0, (h2 66 (by omega)).trans h6⟩, fun _ _ => rfl, ?_, ?_, ?_⟩
  · rw [h2 64 (by omega)]; exact e1
  · rw [h2 65 (by omega)]; exact e2
  · rw [h2 66 (by omega)]; exact e3
theorem same_c {a f g : Nat → Int32} {r t : Int32} {w : Bool} (h : same a f r t w) (e : ∀ j, j < 64 → g j = f j) : same a g r t w := ⟨fun j hj => (e j hj).trans (h.1 j hj), h.2⟩
theorem bR_nI {k a b : Nat} (hk : k < 2 ^ 31) (h1 : a ≤ k) (h2 : k ≤ b) : bR (nI k) a b = true := bR_t.mpr (by rw [nI_toInt hk]; omega)
theorem rel_upd {nw : Nat → Int32} {r t g : Int32} {w : Bool} {c : Nat} (ho : okA nw) (hs : same nw nw r t w) (hc : c < 64) (hg : bR g 0 255 = true) : okA (upd nw c g) ∧ same (upd nw c g) (upd nw c g) r t w :=
  ok_grey ho hs (fun j hj => by unfold upd; split; exact hg; exact ho.1 j hj) (fun j hj => by unfold upd; exact if_neg (by omega))
theorem rel_mU {nw : Nat → Int32} {r t : Int32} {w : Bool} {φ : Int32 → Int32} (ho : okA nw) (hs : same nw nw r t w) (hφ : ∀ x, bR x 0 255 = true → bR (φ x) 0 255 = true) : okA (mU φ nw 64) ∧ same (mU φ nw 64) (mU φ nw 64) r t w :=
  ok_grey ho hs (fun j hj => by unfold mU; rw [if_pos hj]; exact hφ _ (ho.1 j hj)) (fun j hj => by unfold mU; exact if_neg (by omega))
theorem pk_sub_nI {a b : Nat} (h : b ≤ a) : nI a - nI b = nI (a - b) := pk_sub h
theorem inv_ok {x : Int32} (h : bR x 0 255 = true) : bR (nI 255 - x) 0 255 = true := by
  obtain ⟨j, h1, h2, rfl⟩ := bR_nat h
  rw [pk_sub h2]
  exact bR_nI (by omega) (by omega) (by omega)
theorem thw_ok {v x : Int32} (hv : bR v 1 255 = true) (h : bR x 0 255 = true) : bR (thw v x) 0 255 = true := by
  obtain ⟨j, h1, h2, rfl⟩ := bR_nat h
  obtain ⟨k, h3, h4, rfl⟩ := bR_nat hv
  unfold thw
  split
  · rename_i q
    have q2 : k < j := (nI_ltI (by omega) (by omega)).mp q
    rw [pk_sub (by omega)]
    exact bR_nI (by omega) (by omega) (by omega)
  · exact bR_nI (by omega) (by omega) (by omega)
/-- the class's thaw and the reference's -/
theorem thw_eq {v x : Int32} (hv : bR v 1 255 = true) (h : bR x 0 255 = true) : (if x - v < nI 0 then nI 0 else x - v) = thw v x := by
  obtain ⟨j, h1, h2, rfl⟩ := bR_nat h
  obtain ⟨k, h3, h4, rfl⟩ := bR_nat hv
  unfold thw
  have hi : (nI j - nI k).toInt = (j : Int) - (k : Int) := pk_sub_toInt (by omega) (by omega)
  by_cases q : j ≤ k
  · have e1 : (if nI k < nI j then nI j - nI k else nI 0) = nI 0 := if_neg (fun z => by have z2 : k < j := (nI_ltI (by omega) (by omega)).mp z; omega)
    rw [e1]
    by_cases q2 : nI j - nI k < nI 0
    · exact if_pos q2
    · have q3 : ¬ (nI j - nI k).toInt < 0 := fun z => q2 (Int32.lt_iff_toInt_lt.mpr (by rw [nI_toInt (by omega)]; exact z))
      refine (if_neg q2).trans ?_
      rw [show k = j from by omega, pk_sub (Nat.le_refl j), Nat.sub_self]
  · have e1 : (if nI k < nI j then nI j - nI k else nI 0) = nI j - nI k := if_pos ((nI_ltI (by omega) (by omega)).mpr (by omega : k < j))
    rw [e1]
    exact if_neg (fun z => by
      have z2 := Int32.lt_iff_toInt_lt.mp z
      rw [nI_toInt (by omega), hi] at z2
      omega)
theorem mU_c {φ ψ : Int32 → Int32} {nw : Nat → Int32} (h : ∀ j, j < 64 → φ (nw j) = ψ (nw j)) : mU φ nw 64 = mU ψ nw 64 := by
  funext j; unfold mU; split
  · rename_i q; exact h j q
  · rfl
theorem cz_c {f g : Nat → Int32} {n : Nat} (h : ∀ j, j < n → f j = g j) : cz f n = cz g n := by
  induction n with
  | zero => rfl
  | succ n ih => show (if f n = 0 then cz f n + 1 else cz f n) = (if g n = 0 then cz g n + 1 else cz g n); rw [ih (fun j hj => h j (by omega)), h n (by omega)]
theorem thaw_mU {v : Int32} {nw : Nat → Int32} (ho : okA nw) (hv : bR v 1 255 = true) : mU (fun x => if x - v < nI 0 then nI 0 else x - v) nw 64 = mU (thw v) nw 64 := mU_c (fun j hj => thw_eq hv (ho.1 j hj))
theorem thaw_cz {v : Int32} {nw : Nat → Int32} (ho : okA nw) (hv : bR v 1 255 = true) : cz (mU (fun x => if x - v < nI 0 then nI 0 else x - v) nw 64) 64 = cz (fun j => thw v (nw j)) 64 := by
  rw [thaw_mU ho hv]
  exact cz_c (fun j hj => by unfold mU; exact if_pos hj)
theorem rel_rule {nw : Nat → Int32} {r t : Int32} {w : Bool} {v : Int32} (ho : okA nw) (hs : same nw nw r t w) (hv : bR v 0 3 = true) : okA (upd nw 64 v) ∧ same (upd nw 64 v) nw v t w := by
  obtain ⟨j, _, h2, rfl⟩ := bR_nat hv
  obtain ⟨h1, _, h5, w0, h6⟩ := ho
  obtain ⟨_, e1, e2, e3⟩ := hs
  have u : ∀ k, ¬ k = 64 → upd nw 64 (nI j) k = nw k := fun k hk => by unfold upd; exact if_neg hk
  exact ⟨⟨fun k hk => by rw [u k (by omega)]; exact h1 k hk, ⟨j, by omega, upd_at _ _ _⟩, by rw [u 65 (by omega)]; exact h5, w0, by rw [u 66 (by omega)]; exact h6⟩, fun k hk => (u k (by omega)).symm, (upd_at _ _ _).symm, by rw [u 65 (by omega)]; exact e2, by rw [u 66 (by omega)]; exact e3⟩
theorem rel_thr {nw : Nat → Int32} {r t : Int32} {w : Bool} {v : Int32} (ho : okA nw) (hs : same nw nw r t w) (hv : bR v 1 255 = true) : okA (upd nw 65 v) ∧ same (upd nw 65 v) nw r v w := by
  obtain ⟨h1, ⟨r0, h3, h4⟩, h5, w0, h6⟩ := ho
  obtain ⟨_, e1, e2, e3⟩ := hs
  have u : ∀ k, ¬ k = 65 → upd nw 65 v k = nw k := fun k hk => by unfold upd; exact if_neg hk
  exact ⟨⟨fun k hk => by rw [u k (by omega)]; exact h1 k hk, ⟨r0, h3, by rw [u 64 (by omega)]; exact h4⟩, by rw [upd_at]; exact hv, w0, by rw [u 66 (by omega)]; exact h6⟩, fun k hk => (u k (by omega)).symm, by rw [u 64 (by omega)]; exact e1, (upd_at _ _ _).symm, by rw [u 66 (by omega)]; exact e3⟩
theorem rel_win {nw : Nat → Int32} {r t : Int32} {w v : Bool} (ho : okA nw) (hs : same nw nw r t w) : okA (upd nw 66 (gB v)) ∧ same (upd nw 66 (gB v)) nw r t v := by
  obtain ⟨h1, ⟨r0, h3, h4⟩, h5, w0, h6⟩ := ho
  obtain ⟨_, e1, e2, e3⟩ := hs
  have u : ∀ k, ¬ k = 66 → upd nw 66 (gB v) k = nw k := fun k hk => by unfold upd; exact if_neg hk
  exact ⟨⟨fun k hk => by rw [u k (by omega)]; exact h1 k hk, ⟨r0, h3, by rw [u 64 (by omega)]; exact h4⟩, by rw [u 65 (by omega)]; exact h5, v, upd_at _ _ _⟩, fun k hk => (u k (by omega)).symm, by rw [u 64 (by omega)]; exact e1, by rw [u 65 (by omega)]; exact e2, (upd_at _ _ _).symm⟩
/-- shading -/
theorem sgr_n : ∀ k, k < 256 → ∀ c, c < 8 → (-(nI k)) * nI c / nI 7 = -(nI (k * c / 7)) := by decide +kernel
theorem sgr_ok {x y c : Nat} (hx : x ≤ 255) (hy : y ≤ 255) (hc : c < 8) : bR (sgr (nI x) (nI y) c) 0 255 = true := by
  unfold sgr
  by_cases h : x ≤ y
  · rw [pk_sub h, pk_mul, pk_div (a := (y - x) * c) (d := 7) (by have : (y - x) * c ≤ 255 * 7 := Nat.mul_le_mul (by omega) (by omega); omega) (by omega) (by omega), nI_add]
    have h1 : (y - x) * c / 7 ≤ y - x := Nat.div_le_of_le_mul (by rw [Nat.mul_comm 7]; exact Nat.mul_le_mul_left _ (by omega))
    exact bR_nI (by omega) (by omega) (by omega)
  · have e : nI y - nI x = -(nI (x - y)) := by
      rw [← pk_sub (show y ≤ x by omega), Int32.neg_sub]
    rw [e, sgr_n _ (by omega) _ hc, ← Int32.sub_eq_add_neg]
    have h1 : (x - y) * c / 7 ≤ x - y := Nat.div_le_of_le_mul (by rw [Nat.mul_comm 7]; exact Nat.mul_le_mul_left _ (by omega))
    rw [pk_sub (by omega)]
    exact bR_nI (by omega) (by omega) (by omega)
theorem rel_row {nw : Nat → Int32} {r t : Int32} {w : Bool} {ro : Nat} {a b : Int32} (ho : okA nw) (hs : same nw nw r t w) (hro : ro < 8) (ha : bR a 0 255 = true) (hb : bR b 0 255 = true) : okA (srow nw ro a b 8) ∧ same (srow nw ro a b 8) (srow nw ro a b 8) r t w := by
  refine ok_grey ho hs (fun j hj => ?_) (fun j hj => by unfold srow; exact if_neg (by omega))
  unfold srow
  split
  · rename_i q
    obtain ⟨x, _, hx, rfl⟩ := bR_nat ha
    obtain ⟨y, _, hy, rfl⟩ := bR_nat hb
    exact sgr_ok hx hy (by omega)
  · exact ho.1 j hj
end G8
