set_option maxRecDepth 100000 in
set_option maxHeartbeats 4000000 in
theorem c_X4_clearText (l : Launch) (E : gEnv) (hx : Nat) (hp : Nat) (hg : Nat) (hh : Nat) (hsl : Nat) (hsv : Nat) (htx : Nat) (hc : Nat) (T : Nat → Nat) (tn : Nat)  : gM l yX4_clearText wsX4_clearText ({ frames := 0, cells := 0, slots := 0, locals := 0 } : Room) E [.ref hx] [(hx, .inr (4, [.ref hp, .ref hg, .ref hh, .ref hsl, .ref hsv, .ref htx])), (htx, .inr (0, [.ref hc, .int (nI tn)])), (hc, .inl (E.2.1 1, 80, .inl (fun j => nI (T j))))] [(hx, .inr (4, [.ref hp, .ref hg, .ref hh, .ref hsl, .ref hsv, .ref htx])), (htx, .inr (0, [.ref hc, .int (nI 0)])), (hc, .inl (E.2.1 1, 80, .inl (fun j => nI (T j))))] (some (.int (nI tn))) := by
  refine gM.ofG (cc := cX4_clearText) (nL := 2) (ret := (some .int)) (own := RX4) [(0, .ref hx)] (by decide) rfl rfl (Nat.le_of_ble_eq_true rfl) rfl rfl ?_
  intro pX eX sX mX bX tX cX A cx
  have hiX0 : ∀ w ∈ u_ws RX0 TX0 2, w ∈ wsX4_clearText := by decide +kernel
  have hiX4 : ∀ w ∈ u_ws RX4 TX4 6, w ∈ wsX4_clearText := by decide +kernel
  refine g_aload_n cx dX4_clearText_0 rfl ?_
  refine g_get (C := RX4) (T := TX4) (N := 6) (ci := 4) cx hiX4 0 5 (by decide) rfl (by decide +kernel) rfl rfl dX4_clearText_1 ?_
  refine g_get (C := RX0) (T := TX0) (N := 2) (ci := 0) cx hiX0 1 1 (by decide) rfl (by decide +kernel) rfl rfl dX4_clearText_4 ?_
  refine g_istore_n (lv' := [(1, .int (nI tn)), (0, .ref hx)]) cx dX4_clearText_7 rfl (by decide) rfl ?_
  refine g_aload_n cx dX4_clearText_8 rfl ?_
  refine g_get (C := RX4) (T := TX4) (N := 6) (ci := 4) cx hiX4 0 5 (by decide) rfl (by decide +kernel) rfl rfl dX4_clearText_9 ?_
  refine g_iconst cx dX4_clearText_12 kc_i0 ?_
  refine g_put (ws' := [(hx, .inr (4, [.ref hp, .ref hg, .ref hh, .ref hsl, .ref hsv, .ref htx])), (htx, .inr (0, [.ref hc, .int (nI 0)])), (hc, .inl (E.2.1 1, 80, .inl (fun j => nI (T j))))]) (C := RX0) (T := TX0) (N := 2) (ci := 0) cx hiX0 tyX0 tyX0_ok nmX0 1 1 (by decide) rfl (by decide +kernel) rfl rfl rfl rfl rfl (Nat.le_of_ble_eq_true rfl) rfl dX4_clearText_13 ?_
  refine g_iload_n cx dX4_clearText_16 rfl ?_
  exact g_iretE cx dX4_clearText_17 (rfl) (rfl)
set_option maxRecDepth 100000 in
set_option maxHeartbeats 4000000 in
theorem c_X4_textLength (l : Launch) (E : gEnv) (hx : Nat) (hp : Nat) (hg : Nat) (hh : Nat) (hsl : Nat) (hsv : Nat) (htx : Nat) (hc : Nat) (T : Nat → Nat) (tn : Nat)  : gM l yX4_textLength wsX4_textLength ({ frames := 0, cells := 0, slots := 0, locals := 0 } : Room) E [.ref hx] [(hx, .inr (4, [.ref hp, .ref hg, .ref hh, .ref hsl, .ref hsv, .ref htx])), (htx, .inr (0, [.ref hc, .int (nI tn)])), (hc, .inl (E.2.1 1, 80, .inl (fun j => nI (T j))))] [(hx, .inr (4, [.ref hp, .ref hg, .ref hh, .ref hsl, .ref hsv, .ref htx])), (htx, .inr (0, [.ref hc, .int (nI tn)])), (hc, .inl (E.2.1 1, 80, .inl (fun j => nI (T j))))] (some (.int (nI tn))) := by
  refine gM.ofG (cc := cX4_textLength) (nL := 1) (ret := (some .int)) (own := RX4) [(0, .ref hx)] (by decide) rfl rfl (Nat.le_of_ble_eq_true rfl) rfl rfl ?_
  intro pX eX sX mX bX tX cX A cx
  have hiX0 : ∀ w ∈ u_ws RX0 TX0 2, w ∈ wsX4_textLength := by decide +kernel
  have hiX4 : ∀ w ∈ u_ws RX4 TX4 6, w ∈ wsX4_textLength := by decide +kernel
  refine g_aload_n cx dX4_textLength_0 rfl ?_
  refine g_get (C := RX4) (T := TX4) (N := 6) (ci := 4) cx hiX4 0 5 (by decide) rfl (by decide +kernel) rfl rfl dX4_textLength_1 ?_
  refine g_get (C := RX0) (T := TX0) (N := 2) (ci := 0) cx hiX0 1 1 (by decide) rfl (by decide +kernel) rfl rfl dX4_textLength_4 ?_
  exact g_iretE cx dX4_textLength_7 (rfl) (rfl)
set_option maxRecDepth 100000 in
set_option maxHeartbeats 4000000 in
theorem c_X4_textError (l : Launch) (E : gEnv) (hx : Nat) (hp : Nat) (hg : Nat) (hh : Nat) (hsl : Nat) (hsv : Nat) (htx : Nat) (hc : Nat) (T : Nat → Nat) (tn : Nat) (htn : tn ≤ 80) (hT : ∀ j, T j < 128) : gM l yX4_textError wsX4_textError ({ frames := 5, cells := 0, slots := 0, locals := 106 } : Room) E [.ref hx] [(hx, .inr (4, [.ref hp, .ref hg, .ref hh, .ref hsl, .ref hsv, .ref htx])), (htx, .inr (0, [.ref hc, .int (nI tn)])), (hc, .inl (E.2.1 1, 80, .inl (fun j => nI (T j))))] [(hx, .inr (4, [.ref hp, .ref hg, .ref hh, .ref hsl, .ref hsv, .ref htx])), (htx, .inr (0, [.ref hc, .int (nI tn)])), (hc, .inl (E.2.1 1, 80, .inl (fun j => nI (T j))))] (some (.int (ferr T tn 0 0))) := by
  refine gM.ofG (cc := cX4_textError) (nL := 1) (ret := (some .int)) (own := RX4) [(0, .ref hx)] (by decide) rfl rfl (Nat.le_of_ble_eq_true rfl) rfl rfl ?_
  intro pX eX sX mX bX tX cX A cx
  have hiX4 : ∀ w ∈ u_ws RX4 TX4 6, w ∈ wsX4_textError := by decide +kernel
  refine g_aload_n cx dX4_textError_0 rfl ?_
  refine g_get (C := RX4) (T := TX4) (N := 6) (ci := 4) cx hiX4 0 5 (by decide) rfl (by decide +kernel) rfl rfl dX4_textError_1 ?_
  refine g_callV (ws' := [(hx, .inr (4, [.ref hp, .ref hg, .ref hh, .ref hsl, .ref hsv, .ref htx])), (htx, .inr (0, [.ref hc, .int (nI tn)])), (hc, .inl (E.2.1 1, 80, .inl (fun j => nI (T j))))]) (As := []) (rest := []) (n := 0) (T := TX0) (N := 2) (ci := 0) cx (c_X0_firstError l E htx hc T tn (by first | omega | exact hT _ | exact Nat.lt_trans (hT _) (by decide)) hT) gX4_textError_X0_firstError rfl (by decide +kernel) rfl rfl ⟨Nat.le_of_ble_eq_true rfl, Nat.le_of_ble_eq_true rfl⟩ ⟨Nat.zero_le _, Nat.zero_le _⟩ [1, 2] 1 rfl rfl (by decide) rfl rfl rfl rfl (Nat.le_of_ble_eq_true rfl) dX4_textError_4 ?_
  exact g_iretE cx dX4_textError_7 (rfl) (rfl)
set_option maxRecDepth 100000 in
set_option maxHeartbeats 4000000 in
theorem c_X4_undoCount (l : Launch) (E : gEnv) (hx : Nat) (hp : Nat) (hg : Nat) (hh : Nat) (hsl : Nat) (hsv : Nat) (htx : Nat) (st : Nat) (n : Nat)  : gM l yX4_undoCount wsX4_undoCount ({ frames := 0, cells := 0, slots := 0, locals := 0 } : Room) E [.ref hx] [(hx, .inr (4, [.ref hp, .ref hg, .ref hh, .ref hsl, .ref hsv, .ref htx])), (hh, .inr (1, [.ref st, .int (nI n)]))] [(hx, .inr (4, [.ref hp, .ref hg, .ref hh, .ref hsl, .ref hsv, .ref htx])), (hh, .inr (1, [.ref st, .int (nI n)]))] (some (.int (nI n))) := by
  refine gM.ofG (cc := cX4_undoCount) (nL := 1) (ret := (some .int)) (own := RX4) [(0, .ref hx)] (by decide) rfl rfl (Nat.le_of_ble_eq_true rfl) rfl rfl ?_
  intro pX eX sX mX bX tX cX A cx
  have hiX1 : ∀ w ∈ u_ws RX1 TX1 2, w ∈ wsX4_undoCount := by decide +kernel
  have hiX4 : ∀ w ∈ u_ws RX4 TX4 6, w ∈ wsX4_undoCount := by decide +kernel
  refine g_aload_n cx dX4_undoCount_0 rfl ?_
  refine g_get (C := RX4) (T := TX4) (N := 6) (ci := 4) cx hiX4 0 2 (by decide) rfl (by decide +kernel) rfl rfl dX4_undoCount_1 ?_
  refine g_get (C := RX1) (T := TX1) (N := 2) (ci := 1) cx hiX1 1 1 (by decide) rfl (by decide +kernel) rfl rfl dX4_undoCount_4 ?_
  exact g_iretE cx dX4_undoCount_7 (rfl) (rfl)
set_option maxRecDepth 100000 in
set_option maxHeartbeats 4000000 in
theorem c_X4_undo_a (l : Launch) (E : gEnv) (hl0 : l.stackTraces = false) (hx : Nat) (hp : Nat) (hg : Nat) (hh : Nat) (hsl : Nat) (hsv : Nat) (htx : Nat) (st : Nat)  : gZ l yX4_undo wsX4_undo ({ frames := 7, cells := 1, slots := 6, locals := 120 } : Room) E [.ref hx] [(hx, .inr (4, [.ref hp, .ref hg, .ref hh, .ref hsl, .ref hsv, .ref htx])), (hh, .inr (1, [.ref st, .int (nI 0)]))] "java/lang/IllegalStateException" := by
  refine gZ.ofG (cc := cX4_undo) (nL := 1) (ret := (some .int)) (own := RX4) [(0, .ref hx)] (by decide) rfl rfl (Nat.le_of_ble_eq_true rfl) rfl ?_
  intro pX eX sX mX bX tX cX A cx hex
  have hiX1 : ∀ w ∈ u_ws RX1 TX1 2, w ∈ wsX4_undo := by decide +kernel
  have hiX4 : ∀ w ∈ u_ws RX4 TX4 6, w ∈ wsX4_undo := by decide +kernel
  refine g_aload_n cx dX4_undo_0 rfl ?_
  refine g_get (C := RX4) (T := TX4) (N := 6) (ci := 4) cx hiX4 0 2 (by decide) rfl (by decide +kernel) rfl rfl dX4_undo_1 ?_
  refine g_get (C := RX1) (T := TX1) (N := 2) (ci := 1) cx hiX1 1 1 (by decide) rfl (by decide +kernel) rfl rfl dX4_undo_4 ?_
  refine g_if_le (tgt := 14) cx dX4_undo_7 (by decide) (fun z1 => ?_) (fun z1 => absurd z1 (by decide +kernel))
  have z1 := gn_le (a := 0) (b := 0) (by omega) (by omega) z1
  refine g_iconst cx dX4_undo_14 kc_i0 ?_
  exact g_callSZ (As := [.int (nI 0)]) (rest := []) (n := 1) cx hex (c_X4_requireState_f l E hl0 false rfl) gX4_undo_X4_requireState rfl (by decide +kernel) rfl rfl ⟨Nat.le_of_ble_eq_true rfl, Nat.le_of_ble_eq_true rfl⟩ ⟨Nat.le_of_ble_eq_true rfl, Nat.le_of_ble_eq_true rfl⟩ [] (by decide) rfl rfl rfl (Nat.le_of_ble_eq_true rfl) dX4_undo_15
set_option maxRecDepth 100000 in
set_option maxHeartbeats 4000000 in
theorem c_X4_undo_c (l : Launch) (E : gEnv) (hx : Nat) (hg : Nat) (hsl : Nat) (hsv : Nat) (htx : Nat) (hh : Nat) (st : Nat) (q : Nat → Nat) (a : Nat → Nat) (F : Nat → Nat → Int32) (Rr : Nat → Int32) (Tt : Nat → Int32) (Ww : Nat → Bool) (o : Nat) (n : Nat) (hp : Nat) (ap : Nat) (f : Nat → Int32) (r : Int32) (t : Int32) (w : Bool) (hn6 : n ≤ 6) (hn0 : 0 < n) : gM l yX4_undo wsX4_undo ({ frames := 3, cells := 0, slots := 0, locals := 102 } : Room) E [.ref hx] [(hx, .inr (4, [.ref hp, .ref hg, .ref hh, .ref hsl, .ref hsv, .ref htx])), (hh, .inr (1, [.ref st, .int (nI n)])), (st, .inl (E.2.1 3, 6, .inr (.inr (.inr (.inr (fun k => some (q ((k + o) % 6)))))))), (q 0, .inr (3, [.ref (a 0), .int (Rr 0), .int (Tt 0), .int (gB (Ww 0))])), (a 0, .inl (E.2.1 0, 64, .inl (F 0))), (q 1, .inr (3, [.ref (a 1), .int (Rr 1), .int (Tt 1), .int (gB (Ww 1))])), (a 1, .inl (E.2.1 0, 64, .inl (F 1))), (q 2, .inr (3, [.ref (a 2), .int (Rr 2), .int (Tt 2), .int (gB (Ww 2))])), (a 2, .inl (E.2.1 0, 64, .inl (F 2))), (q 3, .inr (3, [.ref (a 3), .int (Rr 3), .int (Tt 3), .int (gB (Ww 3))])), (a 3, .inl (E.2.1 0, 64, .inl (F 3))), (q 4, .inr (3, [.ref (a 4), .int (Rr 4), .int (Tt 4), .int (gB (Ww 4))])), (a 4, .inl (E.2.1 0, 64, .inl (F 4))), (q 5, .inr (3, [.ref (a 5), .int (Rr 5), .int (Tt 5), .int (gB (Ww 5))])), (a 5, .inl (E.2.1 0, 64, .inl (F 5))), (hp, .inr (3, [.ref ap, .int r, .int t, .int (gB w)])), (ap, .inl (E.2.1 0, 64, .inl f))] [(hx, .inr (4, [.ref hp, .ref hg, .ref hh, .ref hsl, .ref hsv, .ref htx])), (hh, .inr (1, [.ref st, .int (nI (n - 1))])), (st, .inl (E.2.1 3, 6, .inr (.inr (.inr (.inr (fun k => some (q ((k + o) % 6)))))))), (q 0, .inr (3, [.ref (a 0), .int (Rr 0), .int (Tt 0), .int (gB (Ww 0))])), (a 0, .inl (E.2.1 0, 64, .inl (F 0))), (q 1, .inr (3, [.ref (a 1), .int (Rr 1), .int (Tt 1), .int (gB (Ww 1))])), (a 1, .inl (E.2.1 0, 64, .inl (F 1))), (q 2, .inr (3, [.ref (a 2), .int (Rr 2), .int (Tt 2), .int (gB (Ww 2))])), (a 2, .inl (E.2.1 0, 64, .inl (F 2))), (q 3, .inr (3, [.ref (a 3), .int (Rr 3), .int (Tt 3), .int (gB (Ww 3))])), (a 3, .inl (E.2.1 0, 64, .inl (F 3))), (q 4, .inr (3, [.ref (a 4), .int (Rr 4), .int (Tt 4), .int (gB (Ww 4))])), (a 4, .inl (E.2.1 0, 64, .inl (F 4))), (q 5, .inr (3, [.ref (a 5), .int (Rr 5), .int (Tt 5), .int (gB (Ww 5))])), (a 5, .inl (E.2.1 0, 64, .inl (F 5))), (hp, .inr (3, [.ref ap, .int (Rr ((n - 1 + o) % 6)), .int (Tt ((n - 1 + o) % 6)), .int (gB (Ww ((n - 1 + o) % 6)))])), (ap, .inl (E.2.1 0, 64, .inl (F ((n - 1 + o) % 6))))] (some (.int (nI (n - 1)))) := by
  refine gM.ofG (cc := cX4_undo) (nL := 1) (ret := (some .int)) (own := RX4) [(0, .ref hx)] (by decide) rfl rfl (Nat.le_of_ble_eq_true rfl) rfl rfl ?_
  intro pX eX sX mX bX tX cX A cx
  have hiX1 : ∀ w ∈ u_ws RX1 TX1 2, w ∈ wsX4_undo := by decide +kernel
  have hiX4 : ∀ w ∈ u_ws RX4 TX4 6, w ∈ wsX4_undo := by decide +kernel
  refine g_aload_n cx dX4_undo_0 rfl ?_
  refine g_get (C := RX4) (T := TX4) (N := 6) (ci := 4) cx hiX4 0 2 (by decide) rfl (by decide +kernel) rfl rfl dX4_undo_1 ?_
  refine g_get (C := RX1) (T := TX1) (N := 2) (ci := 1) cx hiX1 1 1 (by decide) rfl (by decide +kernel) rfl rfl dX4_undo_4 ?_
  refine g_if_le (tgt := 14) cx dX4_undo_7 (by decide) (fun z1 => ?_) (fun z1 => ?_)
  ·
    have z1 := gn_le (a := n) (b := 0) (by omega) (by omega) z1
    refine g_iconst cx dX4_undo_14 kc_i0 ?_
    exfalso
    omega
  ·
    have z1 := gn_nle (a := n) (b := 0) (by omega) (by omega) z1
    refine g_iconst cx dX4_undo_10 kc_i1 ?_
    refine g_goto (tgt := 15) cx dX4_undo_11 (by decide) ?_
    refine g_callS (ws' := [(hx, .inr (4, [.ref hp, .ref hg, .ref hh, .ref hsl, .ref hsv, .ref htx])), (hh, .inr (1, [.ref st, .int (nI n)])), (st, .inl (E.2.1 3, 6, .inr (.inr (.inr (.inr (fun k => some (q ((k + o) % 6)))))))), (q 0, .inr (3, [.ref (a 0), .int (Rr 0), .int (Tt 0), .int (gB (Ww 0))])), (a 0, .inl (E.2.1 0, 64, .inl (F 0))), (q 1, .inr (3, [.ref (a 1), .int (Rr 1), .int (Tt 1), .int (gB (Ww 1))])), (a 1, .inl (E.2.1 0, 64, .inl (F 1))), (q 2, .inr (3, [.ref (a 2), .int (Rr 2), .int (Tt 2), .int (gB (Ww 2))])), (a 2, .inl (E.2.1 0, 64, .inl (F 2))), (q 3, .inr (3, [.ref (a 3), .int (Rr 3), .int (Tt 3), .int (gB (Ww 3))])), (a 3, .inl (E.2.1 0, 64, .inl (F 3))), (q 4, .inr (3, [.ref (a 4), .int (Rr 4), .int (Tt 4), .int (gB (Ww 4))])), (a 4, .inl (E.2.1 0, 64, .inl (F 4))), (q 5, .inr (3, [.ref (a 5), .int (Rr 5), .int (Tt 5), .int (gB (Ww 5))])), (a 5, .inl (E.2.1 0, 64, .inl (F 5))), (hp, .inr (3, [.ref ap, .int r, .int t, .int (gB w)])), (ap, .inl (E.2.1 0, 64, .inl f))]) (As := [.int (nI 1)]) (rest := []) (n := 1) cx (c_X4_requireState_t l E true rfl) gX4_undo_X4_requireState rfl (by decide +kernel) rfl rfl ⟨Nat.le_of_ble_eq_true rfl, Nat.le_of_ble_eq_true rfl⟩ ⟨Nat.zero_le _, Nat.zero_le _⟩ [] (by decide) rfl rfl rfl rfl (Nat.le_of_ble_eq_true rfl) dX4_undo_15 ?_
    refine g_aload_n cx dX4_undo_18 rfl ?_
    refine g_get (C := RX4) (T := TX4) (N := 6) (ci := 4) cx hiX4 0 2 (by decide) rfl (by decide +kernel) rfl rfl dX4_undo_19 ?_
    refine g_aload_n cx dX4_undo_22 rfl ?_
    refine g_get (C := RX4) (T := TX4) (N := 6) (ci := 4) cx hiX4 0 0 (by decide) rfl (by decide +kernel) rfl rfl dX4_undo_23 ?_
    refine g_callV (ws' := [(hx, .inr (4, [.ref hp, .ref hg, .ref hh, .ref hsl, .ref hsv, .ref htx])), (hh, .inr (1, [.ref st, .int (nI (n - 1))])), (st, .inl (E.2.1 3, 6, .inr (.inr (.inr (.inr (fun k => some (q ((k + o) % 6)))))))), (q 0, .inr (3, [.ref (a 0), .int (Rr 0), .int (Tt 0), .int (gB (Ww 0))])), (a 0, .inl (E.2.1 0, 64, .inl (F 0))), (q 1, .inr (3, [.ref (a 1), .int (Rr 1), .int (Tt 1), .int (gB (Ww 1))])), (a 1, .inl (E.2.1 0, 64, .inl (F 1))), (q 2, .inr (3, [.ref (a 2), .int (Rr 2), .int (Tt 2), .int (gB (Ww 2))])), (a 2, .inl (E.2.1 0, 64, .inl (F 2))), (q 3, .inr (3, [.ref (a 3), .int (Rr 3), .int (Tt 3), .int (gB (Ww 3))])), (a 3, .inl (E.2.1 0, 64, .inl (F 3))), (q 4, .inr (3, [.ref (a 4), .int (Rr 4), .int (Tt 4), .int (gB (Ww 4))])), (a 4, .inl (E.2.1 0, 64, .inl (F 4))), (q 5, .inr (3, [.ref (a 5), .int (Rr 5), .int (Tt 5), .int (gB (Ww 5))])), (a 5, .inl (E.2.1 0, 64, .inl (F 5))), (hp, .inr (3, [.ref ap, .int (Rr ((n - 1 + o) % 6)), .int (Tt ((n - 1 + o) % 6)), .int (gB (Ww ((n - 1 + o) % 6)))])), (ap, .inl (E.2.1 0, 64, .inl (F ((n - 1 + o) % 6))))]) (As := [.ref hp]) (rest := []) (n := 1) (T := TX1) (N := 2) (ci := 1) cx (c_X1_takeBack l E hh st q a F Rr Tt Ww o n hp ap f r t w (by omega) (by omega)) gX4_undo_X1_takeBack rfl (by decide +kernel) rfl rfl ⟨Nat.le_of_ble_eq_true rfl, Nat.le_of_ble_eq_true rfl⟩ ⟨Nat.zero_le _, Nat.zero_le _⟩ [1, 2, 3, 4, 5, 6, 7, 8, 9, 10, 11, 12, 13, 14, 15, 16] 1 rfl rfl (by decide) rfl rfl rfl rfl (Nat.le_of_ble_eq_true rfl) dX4_undo_26 ?_
    refine g_aload_n cx dX4_undo_29 rfl ?_
    refine g_get (C := RX4) (T := TX4) (N := 6) (ci := 4) cx hiX4 0 2 (by decide) rfl (by decide +kernel) rfl rfl dX4_undo_30 ?_
    refine g_get (C := RX1) (T := TX1) (N := 2) (ci := 1) cx hiX1 1 1 (by decide) rfl (by decide +kernel) rfl rfl dX4_undo_33 ?_
    exact g_iretE cx dX4_undo_36 (rfl) (rfl)
set_option maxRecDepth 100000 in
set_option maxHeartbeats 4000000 in
theorem c_X4_paint (l : Launch) (E : gEnv) (hx : Nat) (hp : Nat) (hg : Nat) (hh : Nat) (hsl : Nat) (hsv : Nat) (htx : Nat) (gv : Nat) (ge : Nat) (fv : Nat → Int32) (fe : Nat → Int32) (mk : Int64) (lo : Int32) (ap : Nat) (f : Nat → Int32) (rn : Nat) (t : Int32) (w : Bool) (hr : rn < 4) : gM l yX4_paint wsX4_paint ({ frames := 4, cells := 0, slots := 0, locals := 96 } : Room) E [.ref hx] [(hx, .inr (4, [.ref hp, .ref hg, .ref hh, .ref hsl, .ref hsv, .ref htx])), (hg, .inr (2, [.ref gv, .ref ge, .long mk, .int lo])), (gv, .inl (E.2.1 0, 64, .inl fv)), (ge, .inl (E.2.1 0, 64, .inl fe)), (hp, .inr (3, [.ref ap, .int (nI rn), .int t, .int (gB w)])), (ap, .inl (E.2.1 0, 64, .inl f))] [(hx, .inr (4, [.ref hp, .ref hg, .ref hh, .ref hsl, .ref hsv, .ref htx])), (hg, .inr (2, [.ref gv, .ref ge, .long (pM w rn t f), .int (pG w rn t f)])), (gv, .inl (E.2.1 0, 64, .inl (pV w rn t f))), (ge, .inl (E.2.1 0, 64, .inl (pE w rn t f))), (hp, .inr (3, [.ref ap, .int (nI rn), .int t, .int (gB w)])), (ap, .inl (E.2.1 0, 64, .inl f))] none := by
  refine gM.ofG (cc := cX4_paint) (nL := 1) (ret := none) (own := RX4) [(0, .ref hx)] (by decide) rfl rfl (Nat.le_of_ble_eq_true rfl) rfl rfl ?_
  intro pX eX sX mX bX tX cX A cx
  have hiX3 : ∀ w ∈ u_ws RX3 TX3 4, w ∈ wsX4_paint := by decide +kernel
  have hiX4 : ∀ w ∈ u_ws RX4 TX4 6, w ∈ wsX4_paint := by decide +kernel
  refine g_aload_n cx dX4_paint_0 rfl ?_
  refine g_get (C := RX4) (T := TX4) (N := 6) (ci := 4) cx hiX4 0 1 (by decide) rfl (by decide +kernel) rfl rfl dX4_paint_1 ?_
  refine g_aload_n cx dX4_paint_4 rfl ?_
  refine g_get (C := RX4) (T := TX4) (N := 6) (ci := 4) cx hiX4 0 0 (by decide) rfl (by decide +kernel) rfl rfl dX4_paint_5 ?_
  refine g_aload_n cx dX4_paint_8 rfl ?_
  refine g_get (C := RX4) (T := TX4) (N := 6) (ci := 4) cx hiX4 0 0 (by decide) rfl (by decide +kernel) rfl rfl dX4_paint_9 ?_
  refine g_get (C := RX3) (T := TX3) (N := 4) (ci := 3) cx hiX3 4 1 (by decide) rfl (by decide +kernel) rfl rfl dX4_paint_12 ?_
  refine g_aload_n cx dX4_paint_15 rfl ?_
  refine g_get (C := RX4) (T := TX4) (N := 6) (ci := 4) cx hiX4 0 0 (by decide) rfl (by decide +kernel) rfl rfl dX4_paint_16 ?_
  refine g_get (C := RX3) (T := TX3) (N := 4) (ci := 3) cx hiX3 4 2 (by decide) rfl (by decide +kernel) rfl rfl dX4_paint_19 ?_
  refine g_callV (ws' := [(hx, .inr (4, [.ref hp, .ref hg, .ref hh, .ref hsl, .ref hsv, .ref htx])), (hg, .inr (2, [.ref gv, .ref ge, .long ((pst w rn t (f, fe, 0, nI 0) 64).2.2.1), .int ((pst w rn t (f, fe, 0, nI 0) 64).2.2.2)])), (gv, .inl (E.2.1 0, 64, .inl ((pst w rn t (f, fe, 0, nI 0) 64).1))), (ge, .inl (E.2.1 0, 64, .inl ((pst w rn t (f, fe, 0, nI 0) 64).2.1))), (hp, .inr (3, [.ref ap, .int (nI rn), .int t, .int (gB w)])), (ap, .inl (E.2.1 0, 64, .inl f))]) (As := [.ref hp, .int (nI rn), .int t]) (rest := []) (n := 3) (T := TX2) (N := 4) (ci := 2) cx (c_X2_paintByHandingOn l E hg gv ge fv fe mk lo hp ap f (nI rn) t w rn t (by omega)) gX4_paint_X2_paintByHandingOn rfl (by decide +kernel) rfl rfl ⟨Nat.le_of_ble_eq_true rfl, Nat.le_of_ble_eq_true rfl⟩ ⟨Nat.zero_le _, Nat.zero_le _⟩ [1, 2, 3, 4, 5] 1 rfl rfl (by decide) rfl rfl rfl rfl (Nat.le_of_ble_eq_true rfl) dX4_paint_22 ?_
  refine g_wsP (ws' := [(hx, .inr (4, [.ref hp, .ref hg, .ref hh, .ref hsl, .ref hsv, .ref htx])), (hg, .inr (2, [.ref gv, .ref ge, .long ((pst w rn t (f, fe, 0, nI 0) 64).2.2.1), .int ((pst w rn t (f, fe, 0, nI 0) 64).2.2.2)])), (gv, .inl (E.2.1 0, 64, .inl ((pst w rn t (f, fe, 0, nI 0) 64).1))), (ge, .inl (E.2.1 0, 64, .inl (pE w rn t f))), (hp, .inr (3, [.ref ap, .int (nI rn), .int t, .int (gB w)])), (ap, .inl (E.2.1 0, 64, .inl f))]) rfl (fun H hP => gP_cell (ws := [(hx, .inr (4, [.ref hp, .ref hg, .ref hh, .ref hsl, .ref hsv, .ref htx])), (hg, .inr (2, [.ref gv, .ref ge, .long ((pst w rn t (f, fe, 0, nI 0) 64).2.2.1), .int ((pst w rn t (f, fe, 0, nI 0) 64).2.2.2)])), (gv, .inl (E.2.1 0, 64, .inl ((pst w rn t (f, fe, 0, nI 0) 64).1))), (ge, .inl (E.2.1 0, 64, .inl ((pst w rn t (f, fe, 0, nI 0) 64).2.1))), (hp, .inr (3, [.ref ap, .int (nI rn), .int t, .int (gB w)])), (ap, .inl (E.2.1 0, 64, .inl f))]) (k := 3) (a := ge) (cA := E.2.1 0) (cB := E.2.1 0) (x := (64, .inl ((pst w rn t (f, fe, 0, nI 0) 64).2.1))) (y := (64, .inl (pE w rn t f))) hP (gcell_eq (pst_E w (by omega) t f fe 0))) ?_
  refine g_ws (ws' := [(hx, .inr (4, [.ref hp, .ref hg, .ref hh, .ref hsl, .ref hsv, .ref htx])), (hg, .inr (2, [.ref gv, .ref ge, .long (pM w rn t f), .int (pG w rn t f)])), (gv, .inl (E.2.1 0, 64, .inl (pV w rn t f))), (ge, .inl (E.2.1 0, 64, .inl (pE w rn t f))), (hp, .inr (3, [.ref ap, .int (nI rn), .int t, .int (gB w)])), (ap, .inl (E.2.1 0, 64, .inl f))]) (by rw [pst_V, pst_G, pst_M]) ?_
  exact g_vretE cx dX4_paint_25 (rfl)
set_option maxRecDepth 100000 in
set_option maxHeartbeats 4000000 in
theorem c_X4_flakes (l : Launch) (E : gEnv) (hx : Nat) (hp : Nat) (hg : Nat) (hh : Nat) (hsl : Nat) (hsv : Nat) (htx : Nat) (gv : Nat) (ge : Nat) (fv : Nat → Int32) (fe : Nat → Int32) (mk : Int64) (lo : Int32) (ap : Nat) (f : Nat → Int32) (rn : Nat) (t : Int32) (w : Bool) (hr : rn < 4) : gM l yX4_flakes wsX4_flakes ({ frames := 5, cells := 0, slots := 0, locals := 116 } : Room) E [.ref hx] [(hx, .inr (4, [.ref hp, .ref hg, .ref hh, .ref hsl, .ref hsv, .ref htx])), (hg, .inr (2, [.ref gv, .ref ge, .long mk, .int lo])), (gv, .inl (E.2.1 0, 64, .inl fv)), (ge, .inl (E.2.1 0, 64, .inl fe)), (hp, .inr (3, [.ref ap, .int (nI rn), .int t, .int (gB w)])), (ap, .inl (E.2.1 0, 64, .inl f))] [(hx, .inr (4, [.ref hp, .ref hg, .ref hh, .ref hsl, .ref hsv, .ref htx])), (hg, .inr (2, [.ref gv, .ref ge, .long (pM w rn t f), .int (pG w rn t f)])), (gv, .inl (E.2.1 0, 64, .inl (pV w rn t f))), (ge, .inl (E.2.1 0, 64, .inl (pE w rn t f))), (hp, .inr (3, [.ref ap, .int (nI rn), .int t, .int (gB w)])), (ap, .inl (E.2.1 0, 64, .inl f))] (some (.long (pM w rn t f))) := by
  refine gM.ofG (cc := cX4_flakes) (nL := 1) (ret := (some .long)) (own := RX4) [(0, .ref hx)] (by decide) rfl rfl (Nat.le_of_ble_eq_true rfl) rfl rfl ?_
  intro pX eX sX mX bX tX cX A cx
  have hiX2 : ∀ w ∈ u_ws RX2 TX2 4, w ∈ wsX4_flakes := by decide +kernel
  have hiX4 : ∀ w ∈ u_ws RX4 TX4 6, w ∈ wsX4_flakes := by decide +kernel
  refine g_aload_n cx dX4_flakes_0 rfl ?_
  refine g_callV (ws' := [(hx, .inr (4, [.ref hp, .ref hg, .ref hh, .ref hsl, .ref hsv, .ref htx])), (hg, .inr (2, [.ref gv, .ref ge, .long (pM w rn t f), .int (pG w rn t f)])), (gv, .inl (E.2.1 0, 64, .inl (pV w rn t f))), (ge, .inl (E.2.1 0, 64, .inl (pE w rn t f))), (hp, .inr (3, [.ref ap, .int (nI rn), .int t, .int (gB w)])), (ap, .inl (E.2.1 0, 64, .inl f))]) (As := []) (rest := []) (n := 0) (T := TX4) (N := 6) (ci := 4) cx (c_X4_paint l E hx hp hg hh hsl hsv htx gv ge fv fe mk lo ap f rn t w (by omega)) gX4_flakes_X4_paint rfl (by decide +kernel) rfl rfl ⟨Nat.le_of_ble_eq_true rfl, Nat.le_of_ble_eq_true rfl⟩ ⟨Nat.zero_le _, Nat.zero_le _⟩ [0, 1, 2, 3, 4, 5] 0 rfl rfl (by decide) rfl rfl rfl rfl (Nat.le_of_ble_eq_true rfl) dX4_flakes_1 ?_
  refine g_aload_n cx dX4_flakes_4 rfl ?_
  refine g_get (C := RX4) (T := TX4) (N := 6) (ci := 4) cx hiX4 0 1 (by decide) rfl (by decide +kernel) rfl rfl dX4_flakes_5 ?_
  refine g_get (C := RX2) (T := TX2) (N := 4) (ci := 2) cx hiX2 1 2 (by decide) rfl (by decide +kernel) rfl rfl dX4_flakes_8 ?_
  exact g_lretE cx dX4_flakes_11 (rfl) (rfl)
set_option maxRecDepth 100000 in
set_option maxHeartbeats 4000000 in
theorem c_X4_lost (l : Launch) (E : gEnv) (hx : Nat) (hp : Nat) (hg : Nat) (hh : Nat) (hsl : Nat) (hsv : Nat) (htx : Nat) (gv : Nat) (ge : Nat) (fv : Nat → Int32) (fe : Nat → Int32) (mk : Int64) (lo : Int32) (ap : Nat) (f : Nat → Int32) (rn : Nat) (t : Int32) (w : Bool) (hr : rn < 4) : gM l yX4_lost wsX4_lost ({ frames := 5, cells := 0, slots := 0, locals := 116 } : Room) E [.ref hx] [(hx, .inr (4, [.ref hp, .ref hg, .ref hh, .ref hsl, .ref hsv, .ref htx])), (hg, .inr (2, [.ref gv, .ref ge, .long mk, .int lo])), (gv, .inl (E.2.1 0, 64, .inl fv)), (ge, .inl (E.2.1 0, 64, .inl fe)), (hp, .inr (3, [.ref ap, .int (nI rn), .int t, .int (gB w)])), (ap, .inl (E.2.1 0, 64, .inl f))] [(hx, .inr (4, [.ref hp, .ref hg, .ref hh, .ref hsl, .ref hsv, .ref htx])), (hg, .inr (2, [.ref gv, .ref ge, .long (pM w rn t f), .int (pG w rn t f)])), (gv, .inl (E.2.1 0, 64, .inl (pV w rn t f))), (ge, .inl (E.2.1 0, 64, .inl (pE w rn t f))), (hp, .inr (3, [.ref ap, .int (nI rn), .int t, .int (gB w)])), (ap, .inl (E.2.1 0, 64, .inl f))] (some (.int (pG w rn t f))) := by
  refine gM.ofG (cc := cX4_lost) (nL := 1) (ret := (some .int)) (own := RX4) [(0, .ref hx)] (by decide) rfl rfl (Nat.le_of_ble_eq_true rfl) rfl rfl ?_
  intro pX eX sX mX bX tX cX A cx
  have hiX2 : ∀ w ∈ u_ws RX2 TX2 4, w ∈ wsX4_lost := by decide +kernel
  have hiX4 : ∀ w ∈ u_ws RX4 TX4 6, w ∈ wsX4_lost := by decide +kernel
  refine g_aload_n cx dX4_lost_0 rfl ?_
  refine g_callV (ws' := [(hx, .inr (4, [.ref hp, .ref hg, .ref hh, .ref hsl, .ref hsv, .ref htx])), (hg, .inr (2, [.ref gv, .ref ge, .long (pM w rn t f), .int (pG w rn t f)])), (gv, .inl (E.2.1 0, 64, .inl (pV w rn t f))), (ge, .inl (E.2.1 0, 64, .inl (pE w rn t f))), (hp, .inr (3, [.ref ap, .int (nI rn), .int t, .int (gB w)])), (ap, .inl (E.2.1 0, 64, .inl f))]) (As := []) (rest := []) (n := 0) (T := TX4) (N := 6) (ci := 4) cx (c_X4_paint l E hx hp hg hh hsl hsv htx gv ge fv fe mk lo ap f rn t w (by omega)) gX4_lost_X4_paint rfl (by decide +kernel) rfl rfl ⟨Nat.le_of_ble_eq_true rfl, Nat.le_of_ble_eq_true rfl⟩ ⟨Nat.zero_le _, Nat.zero_le _⟩ [0, 1, 2, 3, 4, 5] 0 rfl rfl (by decide) rfl rfl rfl rfl (Nat.le_of_ble_eq_true rfl) dX4_lost_1 ?_
  refine g_aload_n cx dX4_lost_4 rfl ?_
  refine g_get (C := RX4) (T := TX4) (N := 6) (ci := 4) cx hiX4 0 1 (by decide) rfl (by decide +kernel) rfl rfl dX4_lost_5 ?_
  refine g_get (C := RX2) (T := TX2) (N := 4) (ci := 2) cx hiX2 1 3 (by decide) rfl (by decide +kernel) rfl rfl dX4_lost_8 ?_
  exact g_iretE cx dX4_lost_11 (rfl) (rfl)
set_option maxRecDepth 100000 in
set_option maxHeartbeats 4000000 in
theorem c_X4_valueOf_a (l : Launch) (E : gEnv) (hl0 : l.stackTraces = false) (hx : Nat) (v : Int32) (hb : bR v 0 63 = false) : gZ l yX4_valueOf wsX4_valueOf ({ frames := 8, cells := 1, slots := 6, locals := 140 } : Room) E [.ref hx, .int v] [] "java/lang/IndexOutOfBoundsException" := by
  refine gZ.ofG (cc := cX4_valueOf) (nL := 2) (ret := (some .int)) (own := RX4) [(0, .ref hx), (1, .int v)] (by decide) rfl rfl (Nat.le_of_ble_eq_true rfl) rfl ?_
  intro pX eX sX mX bX tX cX A cx hex
  have hiX2 : ∀ w ∈ u_ws RX2 TX2 4, w ∈ wsX4_valueOf := by decide +kernel
  have hiX4 : ∀ w ∈ u_ws RX4 TX4 6, w ∈ wsX4_valueOf := by decide +kernel
  have hk0 := bR_f.mp hb
  refine g_iload_n cx dX4_valueOf_0 rfl ?_
  exact g_callSZ (As := [.int v]) (rest := []) (n := 1) cx hex (c_X4_requireCell_f l E hl0 v hb) gX4_valueOf_X4_requireCell rfl (by decide +kernel) rfl rfl ⟨Nat.le_of_ble_eq_true rfl, Nat.le_of_ble_eq_true rfl⟩ ⟨Nat.le_of_ble_eq_true rfl, Nat.le_of_ble_eq_true rfl⟩ [] (by decide) rfl rfl rfl (Nat.le_of_ble_eq_true rfl) dX4_valueOf_1
set_option maxRecDepth 100000 in
set_option maxHeartbeats 4000000 in
theorem c_X4_valueOf_c (l : Launch) (E : gEnv) (hx : Nat) (hp : Nat) (hg : Nat) (hh : Nat) (hsl : Nat) (hsv : Nat) (htx : Nat) (gv : Nat) (ge : Nat) (fv : Nat → Int32) (fe : Nat → Int32) (mk : Int64) (lo : Int32) (ap : Nat) (f : Nat → Int32) (rn : Nat) (t : Int32) (w : Bool) (c : Nat) (hr : rn < 4) (hc : c < 64) (hb : bR (nI c) 0 63 = true) : gM l yX4_valueOf wsX4_valueOf ({ frames := 5, cells := 0, slots := 0, locals := 116 } : Room) E [.ref hx, .int (nI c)] [(hx, .inr (4, [.ref hp, .ref hg, .ref hh, .ref hsl, .ref hsv, .ref htx])), (hg, .inr (2, [.ref gv, .ref ge, .long mk, .int lo])), (gv, .inl (E.2.1 0, 64, .inl fv)), (ge, .inl (E.2.1 0, 64, .inl fe)), (hp, .inr (3, [.ref ap, .int (nI rn), .int t, .int (gB w)])), (ap, .inl (E.2.1 0, 64, .inl f))] [(hx, .inr (4, [.ref hp, .ref hg, .ref hh, .ref hsl, .ref hsv, .ref htx])), (hg, .inr (2, [.ref gv, .ref ge, .long (pM w rn t f), .int (pG w rn t f)])), (gv, .inl (E.2.1 0, 64, .inl (pV w rn t f))), (ge, .inl (E.2.1 0, 64, .inl (pE w rn t f))), (hp, .inr (3, [.ref ap, .int (nI rn), .int t, .int (gB w)])), (ap, .inl (E.2.1 0, 64, .inl f))] (some (.int (pV w rn t f c))) := by
  refine gM.ofG (cc := cX4_valueOf) (nL := 2) (ret := (some .int)) (own := RX4) [(0, .ref hx), (1, .int (nI c))] (by decide) rfl rfl (Nat.le_of_ble_eq_true rfl) rfl rfl ?_
  intro pX eX sX mX bX tX cX A cx
  have hiX2 : ∀ w ∈ u_ws RX2 TX2 4, w ∈ wsX4_valueOf := by decide +kernel
  have hiX4 : ∀ w ∈ u_ws RX4 TX4 6, w ∈ wsX4_valueOf := by decide +kernel
  refine g_iload_n cx dX4_valueOf_0 rfl ?_
  refine g_callS (ws' := [(hx, .inr (4, [.ref hp, .ref hg, .ref hh, .ref hsl, .ref hsv, .ref htx])), (hg, .inr (2, [.ref gv, .ref ge, .long mk, .int lo])), (gv, .inl (E.2.1 0, 64, .inl fv)), (ge, .inl (E.2.1 0, 64, .inl fe)), (hp, .inr (3, [.ref ap, .int (nI rn), .int t, .int (gB w)])), (ap, .inl (E.2.1 0, 64, .inl f))]) (As := [.int (nI c)]) (rest := []) (n := 1) cx (c_X4_requireCell_t l E (nI c) hb) gX4_valueOf_X4_requireCell rfl (by decide +kernel) rfl rfl ⟨Nat.le_of_ble_eq_true rfl, Nat.le_of_ble_eq_true rfl⟩ ⟨Nat.zero_le _, Nat.zero_le _⟩ [] (by decide) rfl rfl rfl rfl (Nat.le_of_ble_eq_true rfl) dX4_valueOf_1 ?_
  refine g_aload_n cx dX4_valueOf_4 rfl ?_
  refine g_callV (ws' := [(hx, .inr (4, [.ref hp, .ref hg, .ref hh, .ref hsl, .ref hsv, .ref htx])), (hg, .inr (2, [.ref gv, .ref ge, .long (pM w rn t f), .int (pG w rn t f)])), (gv, .inl (E.2.1 0, 64, .inl (pV w rn t f))), (ge, .inl (E.2.1 0, 64, .inl (pE w rn t f))), (hp, .inr (3, [.ref ap, .int (nI rn), .int t, .int (gB w)])), (ap, .inl (E.2.1 0, 64, .inl f))]) (As := []) (rest := []) (n := 0) (T := TX4) (N := 6) (ci := 4) cx (c_X4_paint l E hx hp hg hh hsl hsv htx gv ge fv fe mk lo ap f rn t w (by omega)) gX4_valueOf_X4_paint rfl (by decide +kernel) rfl rfl ⟨Nat.le_of_ble_eq_true rfl, Nat.le_of_ble_eq_true rfl⟩ ⟨Nat.zero_le _, Nat.zero_le _⟩ [0, 1, 2, 3, 4, 5] 0 rfl rfl (by decide) rfl rfl rfl rfl (Nat.le_of_ble_eq_true rfl) dX4_valueOf_5 ?_
  refine g_aload_n cx dX4_valueOf_8 rfl ?_
  refine g_get (C := RX4) (T := TX4) (N := 6) (ci := 4) cx hiX4 0 1 (by decide) rfl (by decide +kernel) rfl rfl dX4_valueOf_9 ?_
  refine g_get (C := RX2) (T := TX2) (N := 4) (ci := 2) cx hiX2 1 0 (by decide) rfl (by decide +kernel) rfl rfl dX4_valueOf_12 ?_
  refine g_iload_n cx dX4_valueOf_15 rfl ?_
  refine g_iald cx 2 rfl rfl (vp_in_nI (by omega) (by omega)) (congrArg _ (nI_clamp (by omega))) dX4_valueOf_16 ?_
  exact g_iretE cx dX4_valueOf_17 (rfl) (rfl)
set_option maxRecDepth 100000 in
set_option maxHeartbeats 4000000 in
theorem c_X4_errorOf_a (l : Launch) (E : gEnv) (hl0 : l.stackTraces = false) (hx : Nat) (v : Int32) (hb : bR v 0 63 = false) : gZ l yX4_errorOf wsX4_errorOf ({ frames := 8, cells := 1, slots := 6, locals := 140 } : Room) E [.ref hx, .int v] [] "java/lang/IndexOutOfBoundsException" := by
  refine gZ.ofG (cc := cX4_errorOf) (nL := 2) (ret := (some .int)) (own := RX4) [(0, .ref hx), (1, .int v)] (by decide) rfl rfl (Nat.le_of_ble_eq_true rfl) rfl ?_
  intro pX eX sX mX bX tX cX A cx hex
  have hiX2 : ∀ w ∈ u_ws RX2 TX2 4, w ∈ wsX4_errorOf := by decide +kernel
  have hiX4 : ∀ w ∈ u_ws RX4 TX4 6, w ∈ wsX4_errorOf := by decide +kernel
  have hk0 := bR_f.mp hb
  refine g_iload_n cx dX4_errorOf_0 rfl ?_
  exact g_callSZ (As := [.int v]) (rest := []) (n := 1) cx hex (c_X4_requireCell_f l E hl0 v hb) gX4_errorOf_X4_requireCell rfl (by decide +kernel) rfl rfl ⟨Nat.le_of_ble_eq_true rfl, Nat.le_of_ble_eq_true rfl⟩ ⟨Nat.le_of_ble_eq_true rfl, Nat.le_of_ble_eq_true rfl⟩ [] (by decide) rfl rfl rfl (Nat.le_of_ble_eq_true rfl) dX4_errorOf_1
set_option maxRecDepth 100000 in
set_option maxHeartbeats 4000000 in
theorem c_X4_errorOf_c (l : Launch) (E : gEnv) (hx : Nat) (hp : Nat) (hg : Nat) (hh : Nat) (hsl : Nat) (hsv : Nat) (htx : Nat) (gv : Nat) (ge : Nat) (fv : Nat → Int32) (fe : Nat → Int32) (mk : Int64) (lo : Int32) (ap : Nat) (f : Nat → Int32) (rn : Nat) (t : Int32) (w : Bool) (c : Nat) (hr : rn < 4) (hc : c < 64) (hb : bR (nI c) 0 63 = true) : gM l yX4_errorOf wsX4_errorOf ({ frames := 5, cells := 0, slots := 0, locals := 116 } : Room) E [.ref hx, .int (nI c)] [(hx, .inr (4, [.ref hp, .ref hg, .ref hh, .ref hsl, .ref hsv, .ref htx])), (hg, .inr (2, [.ref gv, .ref ge, .long mk, .int lo])), (gv, .inl (E.2.1 0, 64, .inl fv)), (ge, .inl (E.2.1 0, 64, .inl fe)), (hp, .inr (3, [.ref ap, .int (nI rn), .int t, .int (gB w)])), (ap, .inl (E.2.1 0, 64, .inl f))] [(hx, .inr (4, [.ref hp, .ref hg, .ref hh, .ref hsl, .ref hsv, .ref htx])), (hg, .inr (2, [.ref gv, .ref ge, .long (pM w rn t f), .int (pG w rn t f)])), (gv, .inl (E.2.1 0, 64, .inl (pV w rn t f))), (ge, .inl (E.2.1 0, 64, .inl (pE w rn t f))), (hp, .inr (3, [.ref ap, .int (nI rn), .int t, .int (gB w)])), (ap, .inl (E.2.1 0, 64, .inl f))] (some (.int (pE w rn t f c))) := by
  refine gM.ofG (cc := cX4_errorOf) (nL := 2) (ret := (some .int)) (own := RX4) [(0, .ref hx), (1, .int (nI c))] (by decide) rfl rfl (Nat.le_of_ble_eq_true rfl) rfl rfl ?_
  intro pX eX sX mX bX tX cX A cx
  have hiX2 : ∀ w ∈ u_ws RX2 TX2 4, w ∈ wsX4_errorOf := by decide +kernel
  have hiX4 : ∀ w ∈ u_ws RX4 TX4 6, w ∈ wsX4_errorOf := by decide +kernel
  refine g_iload_n cx dX4_errorOf_0 rfl ?_
  refine g_callS (ws' := [(hx, .inr (4, [.ref hp, .ref hg, .ref hh, .ref hsl, .ref hsv, .ref htx])), (hg, .inr (2, [.ref gv, .ref ge, .long mk, .int lo])), (gv, .inl (E.2.1 0, 64, .inl fv)), (ge, .inl (E.2.1 0, 64, .inl fe)), (hp, .inr (3, [.ref ap, .int (nI rn), .int t, .int (gB w)])), (ap, .inl (E.2.1 0, 64, .inl f))]) (As := [.int (nI c)]) (rest := []) (n := 1) cx (c_X4_requireCell_t l E (nI c) hb) gX4_errorOf_X4_requireCell rfl (by decide +kernel) rfl rfl ⟨Nat.le_of_ble_eq_true rfl, Nat.le_of_ble_eq_true rfl⟩ ⟨Nat.zero_le _, Nat.zero_le _⟩ [] (by decide) rfl rfl rfl rfl (Nat.le_of_ble_eq_true rfl) dX4_errorOf_1 ?_
  refine g_aload_n cx dX4_errorOf_4 rfl ?_
  refine g_callV (ws' := [(hx, .inr (4, [.ref hp, .ref hg, .ref hh, .ref hsl, .ref hsv, .ref htx])), (hg, .inr (2, [.ref gv, .ref ge, .long (pM w rn t f), .int (pG w rn t f)])), (gv, .inl (E.2.1 0, 64, .inl (pV w rn t f))), (ge, .inl (E.2.1 0, 64, .inl (pE w rn t f))), (hp, .inr (3, [.ref ap, .int (nI rn), .int t, .int (gB w)])), (ap, .inl (E.2.1 0, 64, .inl f))]) (As := []) (rest := []) (n := 0) (T := TX4) (N := 6) (ci := 4) cx (c_X4_paint l E hx hp hg hh hsl hsv htx gv ge fv fe mk lo ap f rn t w (by omega)) gX4_errorOf_X4_paint rfl (by decide +kernel) rfl rfl ⟨Nat.le_of_ble_eq_true rfl, Nat.le_of_ble_eq_true rfl⟩ ⟨Nat.zero_le _, Nat.zero_le _⟩ [0, 1, 2, 3, 4, 5] 0 rfl rfl (by decide) rfl rfl rfl rfl (Nat.le_of_ble_eq_true rfl) dX4_errorOf_5 ?_
  refine g_aload_n cx dX4_errorOf_8 rfl ?_
  refine g_get (C := RX4) (T := TX4) (N := 6) (ci := 4) cx hiX4 0 1 (by decide) rfl (by decide +kernel) rfl rfl dX4_errorOf_9 ?_
  refine g_get (C := RX2) (T := TX2) (N := 4) (ci := 2) cx hiX2 1 1 (by decide) rfl (by decide +kernel) rfl rfl dX4_errorOf_12 ?_
  refine g_iload_n cx dX4_errorOf_15 rfl ?_
  refine g_iald cx 3 rfl rfl (vp_in_nI (by omega) (by omega)) (congrArg _ (nI_clamp (by omega))) dX4_errorOf_16 ?_
  exact g_iretE cx dX4_errorOf_17 (rfl) (rfl)
set_option maxRecDepth 100000 in
set_option maxHeartbeats 4000000 in
theorem c_X4_squareError_a (l : Launch) (E : gEnv) (hl0 : l.stackTraces = false) (hx : Nat) (v : Int32) (hb : bR v 0 15 = false) : gZ l yX4_squareError wsX4_squareError ({ frames := 7, cells := 1, slots := 6, locals := 120 } : Room) E [.ref hx, .int v] [] "java/lang/IndexOutOfBoundsException" := by
  refine gZ.ofG (cc := cX4_squareError) (nL := 2) (ret := (some .int)) (own := RX4) [(0, .ref hx), (1, .int v)] (by decide) rfl rfl (Nat.le_of_ble_eq_true rfl) rfl ?_
  intro pX eX sX mX bX tX cX A cx hex
  have hiX4 : ∀ w ∈ u_ws RX4 TX4 6, w ∈ wsX4_squareError := by decide +kernel
  have hk0 := bR_f.mp hb
  refine g_iload_n cx dX4_squareError_0 rfl ?_
  refine g_if_lt (tgt := 14) cx dX4_squareError_1 (by decide) (fun z1 => ?_) (fun z1 => ?_)
  ·
    have z1 := gi0_lt z1
    refine g_iconst cx dX4_squareError_14 kc_i0 ?_
    exact g_callSZ (As := [.int (nI 0)]) (rest := []) (n := 1) cx hex (c_X4_requireIndex_f l E hl0 false rfl) gX4_squareError_X4_requireIndex rfl (by decide +kernel) rfl rfl ⟨Nat.le_of_ble_eq_true rfl, Nat.le_of_ble_eq_true rfl⟩ ⟨Nat.le_of_ble_eq_true rfl, Nat.le_of_ble_eq_true rfl⟩ [] (by decide) rfl rfl rfl (Nat.le_of_ble_eq_true rfl) dX4_squareError_15
  ·
    have z1 := gi0_nlt z1
    refine g_iload_n cx dX4_squareError_4 rfl ?_
    refine g_bipush cx dX4_squareError_5 kc_b16 ?_
    refine g_icmp_ge (tgt := 14) cx dX4_squareError_7 (by decide) (fun z2 => ?_) (fun z2 => ?_)
    ·
      have z2 := gj_le (b := 16) (by omega) z2
      refine g_iconst cx dX4_squareError_14 kc_i0 ?_
      exact g_callSZ (As := [.int (nI 0)]) (rest := []) (n := 1) cx hex (c_X4_requireIndex_f l E hl0 false rfl) gX4_squareError_X4_requireIndex rfl (by decide +kernel) rfl rfl ⟨Nat.le_of_ble_eq_true rfl, Nat.le_of_ble_eq_true rfl⟩ ⟨Nat.le_of_ble_eq_true rfl, Nat.le_of_ble_eq_true rfl⟩ [] (by decide) rfl rfl rfl (Nat.le_of_ble_eq_true rfl) dX4_squareError_15
    ·
      have z2 := gj_nle (b := 16) (by omega) z2
      refine g_iconst cx dX4_squareError_10 kc_i1 ?_
      refine g_goto (tgt := 15) cx dX4_squareError_11 (by decide) ?_
      exfalso
      omega
set_option maxRecDepth 100000 in
set_option maxHeartbeats 4000000 in
theorem c_X4_squareError_c (l : Launch) (E : gEnv) (hx : Nat) (hp : Nat) (hg : Nat) (hh : Nat) (hsl : Nat) (hsv : Nat) (htx : Nat) (gv : Nat) (ge : Nat) (fv : Nat → Int32) (fe : Nat → Int32) (mk : Int64) (lo : Int32) (ap : Nat) (f : Nat → Int32) (rn : Nat) (t : Int32) (w : Bool) (q : Nat) (hr : rn < 4) (hq6 : q < 16) : gM l yX4_squareError wsX4_squareError ({ frames := 5, cells := 0, slots := 0, locals := 116 } : Room) E [.ref hx, .int (nI q)] [(hx, .inr (4, [.ref hp, .ref hg, .ref hh, .ref hsl, .ref hsv, .ref htx])), (hg, .inr (2, [.ref gv, .ref ge, .long mk, .int lo])), (gv, .inl (E.2.1 0, 64, .inl fv)), (ge, .inl (E.2.1 0, 64, .inl fe)), (hp, .inr (3, [.ref ap, .int (nI rn), .int t, .int (gB w)])), (ap, .inl (E.2.1 0, 64, .inl f))] [(hx, .inr (4, [.ref hp, .ref hg, .ref hh, .ref hsl, .ref hsv, .ref htx])), (hg, .inr (2, [.ref gv, .ref ge, .long (pM w rn t f), .int (pG w rn t f)])), (gv, .inl (E.2.1 0, 64, .inl (pV w rn t f))), (ge, .inl (E.2.1 0, 64, .inl (pE w rn t f))), (hp, .inr (3, [.ref ap, .int (nI rn), .int t, .int (gB w)])), (ap, .inl (E.2.1 0, 64, .inl f))] (some (.int (aI (dsq (pM w rn t f) f (cor q))))) := by
  refine gM.ofG (cc := cX4_squareError) (nL := 2) (ret := (some .int)) (own := RX4) [(0, .ref hx), (1, .int (nI q))] (by decide) rfl rfl (Nat.le_of_ble_eq_true rfl) rfl rfl ?_
  intro pX eX sX mX bX tX cX A cx
  have hiX4 : ∀ w ∈ u_ws RX4 TX4 6, w ∈ wsX4_squareError := by decide +kernel
  refine g_iload_n cx dX4_squareError_0 rfl ?_
  refine g_if_lt (tgt := 14) cx dX4_squareError_1 (by decide) (fun z1 => ?_) (fun z1 => ?_)
  ·
    have z1 := gn_lt (a := q) (b := 0) (by omega) (by omega) z1
    refine g_iconst cx dX4_squareError_14 kc_i0 ?_
    exfalso
    omega
  ·
    have z1 := gn_nlt (a := q) (b := 0) (by omega) (by omega) z1
    refine g_iload_n cx dX4_squareError_4 rfl ?_
    refine g_bipush cx dX4_squareError_5 kc_b16 ?_
    refine g_icmp_ge (tgt := 14) cx dX4_squareError_7 (by decide) (fun z2 => ?_) (fun z2 => ?_)
    ·
      have z2 := gn_le (a := 16) (b := q) (by omega) (by omega) z2
      refine g_iconst cx dX4_squareError_14 kc_i0 ?_
      exfalso
      omega
    ·
      have z2 := gn_nle (a := 16) (b := q) (by omega) (by omega) z2
      refine g_iconst cx dX4_squareError_10 kc_i1 ?_
      refine g_goto (tgt := 15) cx dX4_squareError_11 (by decide) ?_
      refine g_callS (ws' := [(hx, .inr (4, [.ref hp, .ref hg, .ref hh, .ref hsl, .ref hsv, .ref htx])), (hg, .inr (2, [.ref gv, .ref ge, .long mk, .int lo])), (gv, .inl (E.2.1 0, 64, .inl fv)), (ge, .inl (E.2.1 0, 64, .inl fe)), (hp, .inr (3, [.ref ap, .int (nI rn), .int t, .int (gB w)])), (ap, .inl (E.2.1 0, 64, .inl f))]) (As := [.int (nI 1)]) (rest := []) (n := 1) cx (c_X4_requireIndex_t l E true rfl) gX4_squareError_X4_requireIndex rfl (by decide +kernel) rfl rfl ⟨Nat.le_of_ble_eq_true rfl, Nat.le_of_ble_eq_true rfl⟩ ⟨Nat.zero_le _, Nat.zero_le _⟩ [] (by decide) rfl rfl rfl rfl (Nat.le_of_ble_eq_true rfl) dX4_squareError_15 ?_
      refine g_aload_n cx dX4_squareError_18 rfl ?_
      refine g_callV (ws' := [(hx, .inr (4, [.ref hp, .ref hg, .ref hh, .ref hsl, .ref hsv, .ref htx])), (hg, .inr (2, [.ref gv, .ref ge, .long (pM w rn t f), .int (pG w rn t f)])), (gv, .inl (E.2.1 0, 64, .inl (pV w rn t f))), (ge, .inl (E.2.1 0, 64, .inl (pE w rn t f))), (hp, .inr (3, [.ref ap, .int (nI rn), .int t, .int (gB w)])), (ap, .inl (E.2.1 0, 64, .inl f))]) (As := []) (rest := []) (n := 0) (T := TX4) (N := 6) (ci := 4) cx (c_X4_paint l E hx hp hg hh hsl hsv htx gv ge fv fe mk lo ap f rn t w (by omega)) gX4_squareError_X4_paint rfl (by decide +kernel) rfl rfl ⟨Nat.le_of_ble_eq_true rfl, Nat.le_of_ble_eq_true rfl⟩ ⟨Nat.zero_le _, Nat.zero_le _⟩ [0, 1, 2, 3, 4, 5] 0 rfl rfl (by decide) rfl rfl rfl rfl (Nat.le_of_ble_eq_true rfl) dX4_squareError_19 ?_
      refine g_aload_n cx dX4_squareError_22 rfl ?_
      refine g_get (C := RX4) (T := TX4) (N := 6) (ci := 4) cx hiX4 0 1 (by decide) rfl (by decide +kernel) rfl rfl dX4_squareError_23 ?_
      refine g_aload_n cx dX4_squareError_26 rfl ?_
      refine g_get (C := RX4) (T := TX4) (N := 6) (ci := 4) cx hiX4 0 0 (by decide) rfl (by decide +kernel) rfl rfl dX4_squareError_27 ?_
      refine g_iload_n cx dX4_squareError_30 rfl ?_
      refine g_callV (ws' := [(hx, .inr (4, [.ref hp, .ref hg, .ref hh, .ref hsl, .ref hsv, .ref htx])), (hg, .inr (2, [.ref gv, .ref ge, .long (pM w rn t f), .int (pG w rn t f)])), (gv, .inl (E.2.1 0, 64, .inl (pV w rn t f))), (ge, .inl (E.2.1 0, 64, .inl (pE w rn t f))), (hp, .inr (3, [.ref ap, .int (nI rn), .int t, .int (gB w)])), (ap, .inl (E.2.1 0, 64, .inl f))]) (As := [.ref hp, .int (nI q)]) (rest := []) (n := 2) (T := TX2) (N := 4) (ci := 2) cx (c_X2_differenceOfSquare l E hg gv ge (pV w rn t f) (pE w rn t f) (pM w rn t f) (pG w rn t f) hp ap f (nI rn) t w q (by omega)) gX4_squareError_X2_differenceOfSquare rfl (by decide +kernel) rfl rfl ⟨Nat.le_of_ble_eq_true rfl, Nat.le_of_ble_eq_true rfl⟩ ⟨Nat.zero_le _, Nat.zero_le _⟩ [1, 2, 3, 4, 5] 1 rfl rfl (by decide) rfl rfl rfl rfl (Nat.le_of_ble_eq_true rfl) dX4_squareError_31 ?_
      exact g_iretE cx dX4_squareError_34 (rfl) (rfl)
set_option maxRecDepth 100000 in
set_option maxHeartbeats 4000000 in
theorem c_X4_roughnessWith (l : Launch) (E : gEnv) (hx : Nat) (hp : Nat) (hg : Nat) (hh : Nat) (hsl : Nat) (hsv : Nat) (htx : Nat) (gv : Nat) (ge : Nat) (fv : Nat → Int32) (fe : Nat → Int32) (mk : Int64) (lo : Int32) (ap : Nat) (f : Nat → Int32) (rn : Nat) (t : Int32) (w : Bool) (k : Nat) (hr : rn < 4) (hk : k < 4) : gM l yX4_roughnessWith wsX4_roughnessWith ({ frames := 4, cells := 0, slots := 0, locals := 96 } : Room) E [.ref hx, .int (nI k)] [(hx, .inr (4, [.ref hp, .ref hg, .ref hh, .ref hsl, .ref hsv, .ref htx])), (hg, .inr (2, [.ref gv, .ref ge, .long mk, .int lo])), (gv, .inl (E.2.1 0, 64, .inl fv)), (ge, .inl (E.2.1 0, 64, .inl fe)), (hp, .inr (3, [.ref ap, .int (nI rn), .int t, .int (gB w)])), (ap, .inl (E.2.1 0, 64, .inl f))] [(hx, .inr (4, [.ref hp, .ref hg, .ref hh, .ref hsl, .ref hsv, .ref htx])), (hg, .inr (2, [.ref gv, .ref ge, .long (pM w k t f), .int (pG w k t f)])), (gv, .inl (E.2.1 0, 64, .inl (pV w k t f))), (ge, .inl (E.2.1 0, 64, .inl (pE w k t f))), (hp, .inr (3, [.ref ap, .int (nI rn), .int t, .int (gB w)])), (ap, .inl (E.2.1 0, 64, .inl f))] (some (.int (dall (pM w k t f) f 16))) := by
  refine gM.ofG (cc := cX4_roughnessWith) (nL := 2) (ret := (some .int)) (own := RX4) [(0, .ref hx), (1, .int (nI k))] (by decide) rfl rfl (Nat.le_of_ble_eq_true rfl) rfl rfl ?_
  intro pX eX sX mX bX tX cX A cx
  have hiX3 : ∀ w ∈ u_ws RX3 TX3 4, w ∈ wsX4_roughnessWith := by decide +kernel
  have hiX4 : ∀ w ∈ u_ws RX4 TX4 6, w ∈ wsX4_roughnessWith := by decide +kernel
  refine g_aload_n cx dX4_roughnessWith_0 rfl ?_
  refine g_get (C := RX4) (T := TX4) (N := 6) (ci := 4) cx hiX4 0 1 (by decide) rfl (by decide +kernel) rfl rfl dX4_roughnessWith_1 ?_
  refine g_aload_n cx dX4_roughnessWith_4 rfl ?_
  refine g_get (C := RX4) (T := TX4) (N := 6) (ci := 4) cx hiX4 0 0 (by decide) rfl (by decide +kernel) rfl rfl dX4_roughnessWith_5 ?_
  refine g_iload_n cx dX4_roughnessWith_8 rfl ?_
  refine g_aload_n cx dX4_roughnessWith_9 rfl ?_
  refine g_get (C := RX4) (T := TX4) (N := 6) (ci := 4) cx hiX4 0 0 (by decide) rfl (by decide +kernel) rfl rfl dX4_roughnessWith_10 ?_
  refine g_get (C := RX3) (T := TX3) (N := 4) (ci := 3) cx hiX3 4 2 (by decide) rfl (by decide +kernel) rfl rfl dX4_roughnessWith_13 ?_
  refine g_callV (ws' := [(hx, .inr (4, [.ref hp, .ref hg, .ref hh, .ref hsl, .ref hsv, .ref htx])), (hg, .inr (2, [.ref gv, .ref ge, .long ((pst w k t (f, fe, 0, nI 0) 64).2.2.1), .int ((pst w k t (f, fe, 0, nI 0) 64).2.2.2)])), (gv, .inl (E.2.1 0, 64, .inl ((pst w k t (f, fe, 0, nI 0) 64).1))), (ge, .inl (E.2.1 0, 64, .inl ((pst w k t (f, fe, 0, nI 0) 64).2.1))), (hp, .inr (3, [.ref ap, .int (nI rn), .int t, .int (gB w)])), (ap, .inl (E.2.1 0, 64, .inl f))]) (As := [.ref hp, .int (nI k), .int t]) (rest := []) (n := 3) (T := TX2) (N := 4) (ci := 2) cx (c_X2_paintByHandingOn l E hg gv ge fv fe mk lo hp ap f (nI rn) t w k t (by omega)) gX4_roughnessWith_X2_paintByHandingOn rfl (by decide +kernel) rfl rfl ⟨Nat.le_of_ble_eq_true rfl, Nat.le_of_ble_eq_true rfl⟩ ⟨Nat.zero_le _, Nat.zero_le _⟩ [1, 2, 3, 4, 5] 1 rfl rfl (by decide) rfl rfl rfl rfl (Nat.le_of_ble_eq_true rfl) dX4_roughnessWith_16 ?_
  refine g_wsP (ws' := [(hx, .inr (4, [.ref hp, .ref hg, .ref hh, .ref hsl, .ref hsv, .ref htx])), (hg, .inr (2, [.ref gv, .ref ge, .long ((pst w k t (f, fe, 0, nI 0) 64).2.2.1), .int ((pst w k t (f, fe, 0, nI 0) 64).2.2.2)])), (gv, .inl (E.2.1 0, 64, .inl ((pst w k t (f, fe, 0, nI 0) 64).1))), (ge, .inl (E.2.1 0, 64, .inl (pE w k t f))), (hp, .inr (3, [.ref ap, .int (nI rn), .int t, .int (gB w)])), (ap, .inl (E.2.1 0, 64, .inl f))]) rfl (fun H hP => gP_cell (ws := [(hx, .inr (4, [.ref hp, .ref hg, .ref hh, .ref hsl, .ref hsv, .ref htx])), (hg, .inr (2, [.ref gv, .ref ge, .long ((pst w k t (f, fe, 0, nI 0) 64).2.2.1), .int ((pst w k t (f, fe, 0, nI 0) 64).2.2.2)])), (gv, .inl (E.2.1 0, 64, .inl ((pst w k t (f, fe, 0, nI 0) 64).1))), (ge, .inl (E.2.1 0, 64, .inl ((pst w k t (f, fe, 0, nI 0) 64).2.1))), (hp, .inr (3, [.ref ap, .int (nI rn), .int t, .int (gB w)])), (ap, .inl (E.2.1 0, 64, .inl f))]) (k := 3) (a := ge) (cA := E.2.1 0) (cB := E.2.1 0) (x := (64, .inl ((pst w k t (f, fe, 0, nI 0) 64).2.1))) (y := (64, .inl (pE w k t f))) hP (gcell_eq (pst_E w (by omega) t f fe 0))) ?_
  refine g_ws (ws' := [(hx, .inr (4, [.ref hp, .ref hg, .ref hh, .ref hsl, .ref hsv, .ref htx])), (hg, .inr (2, [.ref gv, .ref ge, .long (pM w k t f), .int (pG w k t f)])), (gv, .inl (E.2.1 0, 64, .inl (pV w k t f))), (ge, .inl (E.2.1 0, 64, .inl (pE w k t f))), (hp, .inr (3, [.ref ap, .int (nI rn), .int t, .int (gB w)])), (ap, .inl (E.2.1 0, 64, .inl f))]) (by rw [pst_V, pst_G, pst_M]) ?_
  refine g_aload_n cx dX4_roughnessWith_19 rfl ?_
  refine g_get (C := RX4) (T := TX4) (N := 6) (ci := 4) cx hiX4 0 1 (by decide) rfl (by decide +kernel) rfl rfl dX4_roughnessWith_20 ?_
  refine g_aload_n cx dX4_roughnessWith_23 rfl ?_
  refine g_get (C := RX4) (T := TX4) (N := 6) (ci := 4) cx hiX4 0 0 (by decide) rfl (by decide +kernel) rfl rfl dX4_roughnessWith_24 ?_
  refine g_callV (ws' := [(hx, .inr (4, [.ref hp, .ref hg, .ref hh, .ref hsl, .ref hsv, .ref htx])), (hg, .inr (2, [.ref gv, .ref ge, .long (pM w k t f), .int (pG w k t f)])), (gv, .inl (E.2.1 0, 64, .inl (pV w k t f))), (ge, .inl (E.2.1 0, 64, .inl (pE w k t f))), (hp, .inr (3, [.ref ap, .int (nI rn), .int t, .int (gB w)])), (ap, .inl (E.2.1 0, 64, .inl f))]) (As := [.ref hp]) (rest := []) (n := 1) (T := TX2) (N := 4) (ci := 2) cx (c_X2_differenceOfAllSquares l E hg gv ge (pV w k t f) (pE w k t f) (pM w k t f) (pG w k t f) hp ap f (nI rn) t w ) gX4_roughnessWith_X2_differenceOfAllSquares rfl (by decide +kernel) rfl rfl ⟨Nat.le_of_ble_eq_true rfl, Nat.le_of_ble_eq_true rfl⟩ ⟨Nat.zero_le _, Nat.zero_le _⟩ [1, 2, 3, 4, 5] 1 rfl rfl (by decide) rfl rfl rfl rfl (Nat.le_of_ble_eq_true rfl) dX4_roughnessWith_27 ?_
  exact g_iretE cx dX4_roughnessWith_30 (rfl) (rfl)
set_option maxRecDepth 100000 in
set_option maxHeartbeats 4000000 in
theorem c_X4_roughness (l : Launch) (E : gEnv) (hx : Nat) (hp : Nat) (hg : Nat) (hh : Nat) (hsl : Nat) (hsv : Nat) (htx : Nat) (gv : Nat) (ge : Nat) (fv : Nat → Int32) (fe : Nat → Int32) (mk : Int64) (lo : Int32) (ap : Nat) (f : Nat → Int32) (rn : Nat) (t : Int32) (w : Bool) (hr : rn < 4) : gM l yX4_roughness wsX4_roughness ({ frames := 5, cells := 0, slots := 0, locals := 117 } : Room) E [.ref hx] [(hx, .inr (4, [.ref hp, .ref hg, .ref hh, .ref hsl, .ref hsv, .ref htx])), (hg, .inr (2, [.ref gv, .ref ge, .long mk, .int lo])), (gv, .inl (E.2.1 0, 64, .inl fv)), (ge, .inl (E.2.1 0, 64, .inl fe)), (hp, .inr (3, [.ref ap, .int (nI rn), .int t, .int (gB w)])), (ap, .inl (E.2.1 0, 64, .inl f))] [(hx, .inr (4, [.ref hp, .ref hg, .ref hh, .ref hsl, .ref hsv, .ref htx])), (hg, .inr (2, [.ref gv, .ref ge, .long (pM w rn t f), .int (pG w rn t f)])), (gv, .inl (E.2.1 0, 64, .inl (pV w rn t f))), (ge, .inl (E.2.1 0, 64, .inl (pE w rn t f))), (hp, .inr (3, [.ref ap, .int (nI rn), .int t, .int (gB w)])), (ap, .inl (E.2.1 0, 64, .inl f))] (some (.int (dall (pM w rn t f) f 16))) := by
  refine gM.ofG (cc := cX4_roughness) (nL := 1) (ret := (some .int)) (own := RX4) [(0, .ref hx)] (by decide) rfl rfl (Nat.le_of_ble_eq_true rfl) rfl rfl ?_
  intro pX eX sX mX bX tX cX A cx
  have hiX3 : ∀ w ∈ u_ws RX3 TX3 4, w ∈ wsX4_roughness := by decide +kernel
  have hiX4 : ∀ w ∈ u_ws RX4 TX4 6, w ∈ wsX4_roughness := by decide +kernel
  refine g_aload_n cx dX4_roughness_0 rfl ?_
  refine g_aload_n cx dX4_roughness_1 rfl ?_
  refine g_get (C := RX4) (T := TX4) (N := 6) (ci := 4) cx hiX4 0 0 (by decide) rfl (by decide +kernel) rfl rfl dX4_roughness_2 ?_
  refine g_get (C := RX3) (T := TX3) (N := 4) (ci := 3) cx hiX3 4 1 (by decide) rfl (by decide +kernel) rfl rfl dX4_roughness_5 ?_
  refine g_callV (ws' := [(hx, .inr (4, [.ref hp, .ref hg, .ref hh, .ref hsl, .ref hsv, .ref htx])), (hg, .inr (2, [.ref gv, .ref ge, .long (pM w rn t f), .int (pG w rn t f)])), (gv, .inl (E.2.1 0, 64, .inl (pV w rn t f))), (ge, .inl (E.2.1 0, 64, .inl (pE w rn t f))), (hp, .inr (3, [.ref ap, .int (nI rn), .int t, .int (gB w)])), (ap, .inl (E.2.1 0, 64, .inl f))]) (As := [.int (nI rn)]) (rest := []) (n := 1) (T := TX4) (N := 6) (ci := 4) cx (c_X4_roughnessWith l E hx hp hg hh hsl hsv htx gv ge fv fe mk lo ap f rn t w rn (by omega) (by omega)) gX4_roughness_X4_roughnessWith rfl (by decide +kernel) rfl rfl ⟨Nat.le_of_ble_eq_true rfl, Nat.le_of_ble_eq_true rfl⟩ ⟨Nat.zero_le _, Nat.zero_le _⟩ [0, 1, 2, 3, 4, 5] 0 rfl rfl (by decide) rfl rfl rfl rfl (Nat.le_of_ble_eq_true rfl) dX4_roughness_8 ?_
  exact g_iretE cx dX4_roughness_11 (rfl) (rfl)
set_option maxRecDepth 100000 in
set_option maxHeartbeats 4000000 in
theorem c_X4_flakesByCollecting (l : Launch) (E : gEnv) (hx : Nat) (hp : Nat) (hg : Nat) (hh : Nat) (hsl : Nat) (hsv : Nat) (htx : Nat) (gv : Nat) (ge : Nat) (fv : Nat → Int32) (fe : Nat → Int32) (mk : Int64) (lo : Int32) (ap : Nat) (f : Nat → Int32) (rn : Nat) (t : Int32) (w : Bool) (hr : rn < 4) : gM l yX4_flakesByCollecting wsX4_flakesByCollecting ({ frames := 3, cells := 0, slots := 0, locals := 79 } : Room) E [.ref hx] [(hx, .inr (4, [.ref hp, .ref hg, .ref hh, .ref hsl, .ref hsv, .ref htx])), (hg, .inr (2, [.ref gv, .ref ge, .long mk, .int lo])), (gv, .inl (E.2.1 0, 64, .inl fv)), (ge, .inl (E.2.1 0, 64, .inl fe)), (hp, .inr (3, [.ref ap, .int (nI rn), .int t, .int (gB w)])), (ap, .inl (E.2.1 0, 64, .inl f))] [(hx, .inr (4, [.ref hp, .ref hg, .ref hh, .ref hsl, .ref hsv, .ref htx])), (hg, .inr (2, [.ref gv, .ref ge, .long ((cst w rn t f (fv, fe, 0, lo) 64).2.2.1), .int lo])), (gv, .inl (E.2.1 0, 64, .inl ((cst w rn t f (fv, fe, 0, lo) 64).1))), (ge, .inl (E.2.1 0, 64, .inl ((cst w rn t f (fv, fe, 0, lo) 64).2.1))), (hp, .inr (3, [.ref ap, .int (nI rn), .int t, .int (gB w)])), (ap, .inl (E.2.1 0, 64, .inl f))] (some (.long ((cst w rn t f (fv, fe, 0, lo) 64).2.2.1))) := by
  refine gM.ofG (cc := cX4_flakesByCollecting) (nL := 1) (ret := (some .long)) (own := RX4) [(0, .ref hx)] (by decide) rfl rfl (Nat.le_of_ble_eq_true rfl) rfl rfl ?_
  intro pX eX sX mX bX tX cX A cx
  have hiX2 : ∀ w ∈ u_ws RX2 TX2 4, w ∈ wsX4_flakesByCollecting := by decide +kernel
  have hiX3 : ∀ w ∈ u_ws RX3 TX3 4, w ∈ wsX4_flakesByCollecting := by decide +kernel
  have hiX4 : ∀ w ∈ u_ws RX4 TX4 6, w ∈ wsX4_flakesByCollecting := by decide +kernel
  refine g_aload_n cx dX4_flakesByCollecting_0 rfl ?_
  refine g_get (C := RX4) (T := TX4) (N := 6) (ci := 4) cx hiX4 0 1 (by decide) rfl (by decide +kernel) rfl rfl dX4_flakesByCollecting_1 ?_
  refine g_aload_n cx dX4_flakesByCollecting_4 rfl ?_
  refine g_get (C := RX4) (T := TX4) (N := 6) (ci := 4) cx hiX4 0 0 (by decide) rfl (by decide +kernel) rfl rfl dX4_flakesByCollecting_5 ?_
  refine g_aload_n cx dX4_flakesByCollecting_8 rfl ?_
  refine g_get (C := RX4) (T := TX4) (N := 6) (ci := 4) cx hiX4 0 0 (by decide) rfl (by decide +kernel) rfl rfl dX4_flakesByCollecting_9 ?_
  refine g_get (C := RX3) (T := TX3) (N := 4) (ci := 3) cx hiX3 4 1 (by decide) rfl (by decide +kernel) rfl rfl dX4_flakesByCollecting_12 ?_
  refine g_aload_n cx dX4_flakesByCollecting_15 rfl ?_
  refine g_get (C := RX4) (T := TX4) (N := 6) (ci := 4) cx hiX4 0 0 (by decide) rfl (by decide +kernel) rfl rfl dX4_flakesByCollecting_16 ?_
  refine g_get (C := RX3) (T := TX3) (N := 4) (ci := 3) cx hiX3 4 2 (by decide) rfl (by decide +kernel) rfl rfl dX4_flakesByCollecting_19 ?_
  refine g_callV (ws' := [(hx, .inr (4, [.ref hp, .ref hg, .ref hh, .ref hsl, .ref hsv, .ref htx])), (hg, .inr (2, [.ref gv, .ref ge, .long ((cst w rn t f (fv, fe, 0, lo) 64).2.2.1), .int lo])), (gv, .inl (E.2.1 0, 64, .inl ((cst w rn t f (fv, fe, 0, lo) 64).1))), (ge, .inl (E.2.1 0, 64, .inl ((cst w rn t f (fv, fe, 0, lo) 64).2.1))), (hp, .inr (3, [.ref ap, .int (nI rn), .int t, .int (gB w)])), (ap, .inl (E.2.1 0, 64, .inl f))]) (As := [.ref hp, .int (nI rn), .int t]) (rest := []) (n := 3) (T := TX2) (N := 4) (ci := 2) cx (c_X2_paintByCollecting l E hg gv ge fv fe mk lo hp ap f (nI rn) t w rn t (by omega)) gX4_flakesByCollecting_X2_paintByCollecting rfl (by decide +kernel) rfl rfl ⟨Nat.le_of_ble_eq_true rfl, Nat.le_of_ble_eq_true rfl⟩ ⟨Nat.zero_le _, Nat.zero_le _⟩ [1, 2, 3, 4, 5] 1 rfl rfl (by decide) rfl rfl rfl rfl (Nat.le_of_ble_eq_true rfl) dX4_flakesByCollecting_22 ?_
  refine g_aload_n cx dX4_flakesByCollecting_25 rfl ?_
  refine g_get (C := RX4) (T := TX4) (N := 6) (ci := 4) cx hiX4 0 1 (by decide) rfl (by decide +kernel) rfl rfl dX4_flakesByCollecting_26 ?_
  refine g_get (C := RX2) (T := TX2) (N := 4) (ci := 2) cx hiX2 1 2 (by decide) rfl (by decide +kernel) rfl rfl dX4_flakesByCollecting_29 ?_
  exact g_lretE cx dX4_flakesByCollecting_32 (rfl) (rfl)
