/-! the pure words, fourth: what painting leaves -/
theorem pcl_pcl : ∀ s, s < 64 → ∀ w : Bool, pcl w (pcl w s) = s := by decide +kernel
theorem pcl_inj {w : Bool} {s t : Nat} (hs : s < 64) (ht : t < 64) (h : pcl w s = pcl w t) : s = t := by
  rw [← pcl_pcl s hs w, ← pcl_pcl t ht w, h]
theorem tI_later : ∀ s, s < 64 → ∀ j, j < 12 → ∀ w : Bool, tI (dirI w (pcl w s / 8)) j (pcl w s) = -1 ∨ s < pcl w (tI (dirI w (pcl w s / 8)) j (pcl w s)).toNatClampNeg := by decide +kernel
theorem hnd_old {w : Bool} {r s : Nat} (hr : r < 4) (hs : s < 64) (e : Int32) (q : (Nat → Int32) × Int32) (c : Nat) (hc : c < 64) (hp : pcl w c ≤ s) : ∀ k, k ≤ cntR r → (hnd (dirI w (pcl w s / 8)) r (pcl w s) e k q).1 c = q.1 c := by
  intro k
  induction k with
  | zero => intro _; rfl
  | succ k ih =>
    intro hk
    have hF := nF_f hr
    have hcR : cntR r = nF (r + 1) - nF r := rfl
    have ih := ih (by omega)
    by_cases h : tI (dirI w (pcl w s / 8)) (nF r + k) (pcl w s) = -1
    · rw [hnd_p h]; exact ih
    · rw [hnd_n h]
      show upd _ _ _ c = _
      unfold upd
      rcases tI_later s hs (nF r + k) (by omega) w with q1 | q1
      · exact absurd q1 h
      · rw [if_neg (fun z => by
          have z2 : pcl w c = pcl w (tI (dirI w (pcl w s / 8)) (nF r + k) (pcl w s)).toNatClampNeg := congrArg (pcl w) z
          omega)]
        exact ih
/-- a value stays once its cell is painted -/
theorem pst_old {w : Bool} {r : Nat} (hr : r < 4) (thr : Int32) (q : gPt) (t : Nat) : ∀ s, t ≤ s → s ≤ 64 → t < 64 → (pst w r thr q s).1 (pcl w t) = (pst w r thr q t).1 (pcl w t) := by
  intro s
  induction s with
  | zero => intro h _ _; rw [show t = 0 from by omega]
  | succ s ih =>
    intro h hs ht
    by_cases he : t = s + 1
    · rw [he]
    · have ih := ih (by omega) (by omega) ht
      rw [← ih]
      show (hnd _ _ _ _ _ _).1 _ = _
      exact hnd_old hr (by omega) _ _ _ (pcl_lt ht) (by rw [pcl_pcl t ht w]; omega) _ (Nat.le_refl _)
theorem pst_err {w : Bool} {r : Nat} (thr : Int32) (q : gPt) (t : Nat) (ht : t < 64) : ∀ s, t < s → s ≤ 64 → (pst w r thr q s).2.1 (pcl w t) = stp thr ((pst w r thr q t).1 (pcl w t)) := by
  intro s
  induction s with
  | zero => intro h; omega
  | succ s ih =>
    intro h hs
    show upd (pst w r thr q s).2.1 (pcl w s) _ (pcl w t) = _
    unfold upd
    by_cases he : t = s
    · subst he; rw [if_pos rfl]
    · rw [if_neg (fun z => he (pcl_inj (w := w) ht (by omega) z))]
      exact ih (by omega) (by omega)
/-- the errors that painting leaves -/
theorem pst_er {w : Bool} {r : Nat} (hr : r < 4) (thr : Int32) (q : gPt) : ∀ c, c < 64 → (pst w r thr q 64).2.1 c = stp thr ((pst w r thr q 64).1 c) := by
  intro c hc
  have h1 := pst_err (w := w) (r := r) thr q (pcl w c) (pcl_lt hc) 64 (pcl_lt hc) (Nat.le_refl _)
  have h2 := pst_old (w := w) hr thr q (pcl w c) 64 (Nat.le_of_lt (pcl_lt hc)) (Nat.le_refl _) (pcl_lt hc)
  rw [pcl_pcl c hc w] at h1 h2
  rw [h1, h2]
/-- the values and what is lost hang on neither the errors nor the mask at the start -/
theorem pst_free (w : Bool) (r : Nat) (thr : Int32) (v : Nat → Int32) (e1 e2 : Nat → Int32) (m1 m2 : Int64) (lo : Int32) : ∀ s, (pst w r thr (v, e1, m1, lo) s).1 = (pst w r thr (v, e2, m2, lo) s).1 ∧ (pst w r thr (v, e1, m1, lo) s).2.2.2 = (pst w r thr (v, e2, m2, lo) s).2.2.2 := by
  intro s
  induction s with
  | zero => exact ⟨rfl, rfl⟩
  | succ s ih =>
    obtain ⟨h1, h2⟩ := ih
    refine ⟨?_, ?_⟩
    · show (hnd _ _ _ (stp thr ((pst w r thr (v, e1, m1, lo) s).1 (pcl w s))) _ ((pst w r thr (v, e1, m1, lo) s).1, (pst w r thr (v, e1, m1, lo) s).2.2.2)).1 = (hnd _ _ _ (stp thr ((pst w r thr (v, e2, m2, lo) s).1 (pcl w s))) _ ((pst w r thr (v, e2, m2, lo) s).1, (pst w r thr (v, e2, m2, lo) s).2.2.2)).1
      rw [h1, h2]
    · show (hnd _ _ _ (stp thr ((pst w r thr (v, e1, m1, lo) s).1 (pcl w s))) _ ((pst w r thr (v, e1, m1, lo) s).1, (pst w r thr (v, e1, m1, lo) s).2.2.2)).2 = (hnd _ _ _ (stp thr ((pst w r thr (v, e2, m2, lo) s).1 (pcl w s))) _ ((pst w r thr (v, e2, m2, lo) s).1, (pst w r thr (v, e2, m2, lo) s).2.2.2)).2
      rw [h1, h2]
/-- the picture painted: values, errors, what is lost -/
def pV (w : Bool) (r : Nat) (thr : Int32) (f : Nat → Int32) : Nat → Int32 := (pst w r thr (f, fun _ => 0, 0, nI 0) 64).1
def pE (w : Bool) (r : Nat) (thr : Int32) (f : Nat → Int32) : Nat → Int32 := fun c => stp thr (pV w r thr f c)
def pG (w : Bool) (r : Nat) (thr : Int32) (f : Nat → Int32) : Int32 := (pst w r thr (f, fun _ => 0, 0, nI 0) 64).2.2.2
theorem pst_V (w : Bool) (r : Nat) (thr : Int32) (f er : Nat → Int32) (mk : Int64) : (pst w r thr (f, er, mk, nI 0) 64).1 = pV w r thr f := (pst_free w r thr f er _ mk _ _ 64).1
theorem pst_G (w : Bool) (r : Nat) (thr : Int32) (f er : Nat → Int32) (mk : Int64) : (pst w r thr (f, er, mk, nI 0) 64).2.2.2 = pG w r thr f := (pst_free w r thr f er _ mk _ _ 64).2
theorem pst_E (w : Bool) {r : Nat} (hr : r < 4) (thr : Int32) (f er : Nat → Int32) (mk : Int64) : ∀ c, c < 64 → (pst w r thr (f, er, mk, nI 0) 64).2.1 c = pE w r thr f c := by
  intro c hc
  exact (pst_er (w := w) hr thr (f, er, mk, nI 0) c hc).trans (congrArg (fun v : Nat → Int32 => stp thr (v c)) (pst_V w r thr f er mk))
/-- a flake is there -/
def pF (w : Bool) (r : Nat) (thr : Int32) (f : Nat → Int32) (c : Nat) : Bool := decide (¬ pV w r thr f c < thr)
theorem sub255_ne (x : Int32) : ¬ x - nI 255 = x := by
  intro h
  have h2 := congrArg (fun z => z - x) h
  have h3 : x - nI 255 - x = -nI 255 := by
    rw [Int32.sub_eq_add_neg, Int32.sub_eq_add_neg, Int32.add_comm x, Int32.add_assoc, ← Int32.sub_eq_add_neg x, Int32.sub_self, Int32.add_zero]
  have h4 : x - nI 255 - x = x - x := h2
  rw [h3, Int32.sub_self] at h4
  exact absurd h4 (by decide)
theorem flB_pF (w : Bool) (r : Nat) (thr : Int32) (f : Nat → Int32) (c : Nat) : flB (pE w r thr f) (pV w r thr f) c = pF w r thr f c := by
  unfold flB pF pE stp
  by_cases h : pV w r thr f c < thr
  · rw [if_pos h]; simp [h]
  · rw [if_neg h, decide_eq_true (sub255_ne _), decide_eq_true h]
theorem flB_cong {er er2 va : Nat → Int32} {c : Nat} (h : er c = er2 c) : flB er va c = flB er2 va c := by unfold flB; rw [h]
theorem mny_cong {er er2 va : Nat → Int32} : ∀ n, (∀ c, c < n → er c = er2 c) → mny er va n = mny er2 va n
  | 0, _ => rfl
  | n + 1, h => by
    unfold mny
    rw [mny_cong n (fun c hc => h c (by omega)), flB_cong (h n (by omega))]
theorem mkR_cong {er er2 va : Nat → Int32} : ∀ n, (∀ c, c < n → er c = er2 c) → mkR er va n = mkR er2 va n
  | 0, _ => rfl
  | n + 1, h => by
    unfold mkR
    rw [mkR_cong n (fun c hc => h c (by omega)), flB_cong (h n (by omega))]
theorem osq_lt {q k : Nat} (hq : q < 16) (hk : k < 4) : osq q k < 64 := by unfold osq; omega
theorem ofs_cong {nw er er2 va : Nat → Int32} {q : Nat} (hq : q < 16) (h : ∀ c, c < 64 → er c = er2 c) : ∀ k, k ≤ 4 → ofs nw er va q k = ofs nw er2 va q k
  | 0, _ => rfl
  | k + 1, hk => by
    show ofs nw er va q k + (nw (osq q k) - fl255 er va (osq q k)) = ofs nw er2 va q k + (nw (osq q k) - fl255 er2 va (osq q k))
    rw [ofs_cong hq h k (by omega)]
    unfold fl255
    rw [flB_cong (h _ (osq_lt hq (by omega)))]
theorem aof_cong {nw er er2 va : Nat → Int32} (h : ∀ c, c < 64 → er c = er2 c) : ∀ q, q ≤ 16 → aof nw er va q = aof nw er2 va q
  | 0, _ => rfl
  | q + 1, hq => by
    show aof nw er va q + nab (ofs nw er va q 4) = aof nw er2 va q + nab (ofs nw er2 va q 4)
    rw [aof_cong h q (by omega), ofs_cong (by omega) h 4 (Nat.le_refl _)]
def rgh (w : Bool) (nw : Nat → Int32) (i : Nat) : Int32 := aof nw (pE w i (nw 65) nw) (pV w i (nw 65) nw) 16
def cnF (w : Bool) (r : Nat) (nw : Nat → Int32) (t : Nat) : Nat := mny (pE w r (nI t) nw) (pV w r (nI t) nw) 64
