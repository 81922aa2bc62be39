set_option maxRecDepth 100000 in
set_option maxHeartbeats 4000000 in
theorem c_X4_appendText_a (l : Launch) (E : gEnv) (hl0 : l.stackTraces = false) (hx : Nat) (pk : Int64) (hz : ccn 8 0 pk = -1) : gZ l yX4_appendText wsX4_appendText ({ frames := 7, cells := 1, slots := 6, locals := 120 } : Room) E [.ref hx, .long pk] [] "java/lang/IllegalArgumentException" := by
  refine gZ.ofG (cc := cX4_appendText) (nL := 4) (ret := (some .int)) (own := RX4) [(0, .ref hx), (1, .long pk)] (by decide) rfl rfl (Nat.le_of_ble_eq_true rfl) rfl ?_
  intro pX eX sX mX bX tX cX A cx hex
  have hiX0 : ∀ w ∈ u_ws RX0 TX0 2, w ∈ wsX4_appendText := by decide +kernel
  have hiX4 : ∀ w ∈ u_ws RX4 TX4 6, w ∈ wsX4_appendText := by decide +kernel
  refine g_lload_n cx dX4_appendText_0 rfl ?_
  refine g_callS (ws' := []) (As := [.long pk]) (rest := []) (n := 1) cx (c_X0_countCharacters l E pk ) gX4_appendText_X0_countCharacters rfl (by decide +kernel) rfl rfl ⟨Nat.le_of_ble_eq_true rfl, Nat.le_of_ble_eq_true rfl⟩ ⟨Nat.zero_le _, Nat.zero_le _⟩ [] (by decide) rfl rfl rfl rfl (Nat.le_of_ble_eq_true rfl) dX4_appendText_1 ?_
  refine g_istore_n (lv' := [(3, .int (ccn 8 0 pk)), (0, .ref hx), (1, .long pk)]) cx dX4_appendText_4 rfl (by decide) rfl ?_
  refine g_iload_n cx dX4_appendText_5 rfl ?_
  refine g_iconst cx dX4_appendText_6 kc_im1 ?_
  refine g_icmp_eq (tgt := 14) cx dX4_appendText_7 (by decide) (fun z1 => ?_) (fun z1 => absurd hz z1)
  refine g_iconst cx dX4_appendText_14 kc_i0 ?_
  exact g_callSZ (As := [.int (nI 0)]) (rest := []) (n := 1) cx hex (c_X4_requireArgument_f l E hl0 false rfl) gX4_appendText_X4_requireArgument rfl (by decide +kernel) rfl rfl ⟨Nat.le_of_ble_eq_true rfl, Nat.le_of_ble_eq_true rfl⟩ ⟨Nat.le_of_ble_eq_true rfl, Nat.le_of_ble_eq_true rfl⟩ [] (by decide) rfl rfl rfl (Nat.le_of_ble_eq_true rfl) dX4_appendText_15
set_option maxRecDepth 100000 in
set_option maxHeartbeats 4000000 in
theorem c_X4_appendText_b (l : Launch) (E : gEnv) (hl0 : l.stackTraces = false) (hx : Nat) (hp : Nat) (hg : Nat) (hh : Nat) (hsl : Nat) (hsv : Nat) (htx : Nat) (hc : Nat) (T : Nat → Nat) (tn : Nat) (pk : Int64) (k : Nat) (htn : tn ≤ 80) (hT : ∀ j, T j < 128) (hz : ccn 8 0 pk = nI k) (hk : 1 ≤ k) (hk8 : k ≤ 8) (hr : decide (tn + k ≤ 80) = false) : gZ l yX4_appendText wsX4_appendText ({ frames := 7, cells := 1, slots := 6, locals := 120 } : Room) E [.ref hx, .long pk] [(hx, .inr (4, [.ref hp, .ref hg, .ref hh, .ref hsl, .ref hsv, .ref htx])), (htx, .inr (0, [.ref hc, .int (nI tn)])), (hc, .inl (E.2.1 1, 80, .inl (fun j => nI (T j))))] "java/lang/IllegalStateException" := by
  refine gZ.ofG (cc := cX4_appendText) (nL := 4) (ret := (some .int)) (own := RX4) [(0, .ref hx), (1, .long pk)] (by decide) rfl rfl (Nat.le_of_ble_eq_true rfl) rfl ?_
  intro pX eX sX mX bX tX cX A cx hex
  have hiX0 : ∀ w ∈ u_ws RX0 TX0 2, w ∈ wsX4_appendText := by decide +kernel
  have hiX4 : ∀ w ∈ u_ws RX4 TX4 6, w ∈ wsX4_appendText := by decide +kernel
  refine g_lload_n cx dX4_appendText_0 rfl ?_
  refine g_callS (ws' := [(hx, .inr (4, [.ref hp, .ref hg, .ref hh, .ref hsl, .ref hsv, .ref htx])), (htx, .inr (0, [.ref hc, .int (nI tn)])), (hc, .inl (E.2.1 1, 80, .inl (fun j => nI (T j))))]) (As := [.long pk]) (rest := []) (n := 1) cx (c_X0_countCharacters l E pk ) gX4_appendText_X0_countCharacters rfl (by decide +kernel) rfl rfl ⟨Nat.le_of_ble_eq_true rfl, Nat.le_of_ble_eq_true rfl⟩ ⟨Nat.zero_le _, Nat.zero_le _⟩ [] (by decide) rfl rfl rfl rfl (Nat.le_of_ble_eq_true rfl) dX4_appendText_1 ?_
  refine g_top (show (ccn 8 0 pk) = nI k from hz) ?_
  refine g_istore_n (lv' := [(3, .int (nI k)), (0, .ref hx), (1, .long pk)]) cx dX4_appendText_4 rfl (by decide) rfl ?_
  refine g_iload_n cx dX4_appendText_5 rfl ?_
  refine g_iconst cx dX4_appendText_6 kc_im1 ?_
  refine g_icmp_eq (tgt := 14) cx dX4_appendText_7 (by decide) (fun z1 => absurd z1 (nI_nm1 (by omega))) (fun z1 => ?_)
  refine g_iconst cx dX4_appendText_10 kc_i1 ?_
  refine g_goto (tgt := 15) cx dX4_appendText_11 (by decide) ?_
  refine g_callS (ws' := [(hx, .inr (4, [.ref hp, .ref hg, .ref hh, .ref hsl, .ref hsv, .ref htx])), (htx, .inr (0, [.ref hc, .int (nI tn)])), (hc, .inl (E.2.1 1, 80, .inl (fun j => nI (T j))))]) (As := [.int (nI 1)]) (rest := []) (n := 1) cx (c_X4_requireArgument_t l E true rfl) gX4_appendText_X4_requireArgument rfl (by decide +kernel) rfl rfl ⟨Nat.le_of_ble_eq_true rfl, Nat.le_of_ble_eq_true rfl⟩ ⟨Nat.zero_le _, Nat.zero_le _⟩ [] (by decide) rfl rfl rfl rfl (Nat.le_of_ble_eq_true rfl) dX4_appendText_15 ?_
  refine g_aload_n cx dX4_appendText_18 rfl ?_
  refine g_get (C := RX4) (T := TX4) (N := 6) (ci := 4) cx hiX4 0 5 (by decide) rfl (by decide +kernel) rfl rfl dX4_appendText_19 ?_
  refine g_iload_n cx dX4_appendText_22 rfl ?_
  refine g_callV (ws' := [(hx, .inr (4, [.ref hp, .ref hg, .ref hh, .ref hsl, .ref hsv, .ref htx])), (htx, .inr (0, [.ref hc, .int (nI tn)])), (hc, .inl (E.2.1 1, 80, .inl (fun j => nI (T j))))]) (As := [.int (nI k)]) (rest := []) (n := 1) (T := TX0) (N := 2) (ci := 0) cx (c_X0_hasRoomFor l E htx hc T tn k (by first | omega | exact hT _ | exact Nat.lt_trans (hT _) (by decide)) hT (by first | omega | exact hT _ | exact Nat.lt_trans (hT _) (by decide))) gX4_appendText_X0_hasRoomFor rfl (by decide +kernel) rfl rfl ⟨Nat.le_of_ble_eq_true rfl, Nat.le_of_ble_eq_true rfl⟩ ⟨Nat.zero_le _, Nat.zero_le _⟩ [1, 2] 1 rfl rfl (by decide) rfl rfl rfl rfl (Nat.le_of_ble_eq_true rfl) dX4_appendText_23 ?_
  exact g_callSZ (As := [.int (gB (decide (tn + k ≤ 80)))]) (rest := []) (n := 1) cx hex (c_X4_requireState_f l E hl0 (decide (tn + k ≤ 80)) hr) gX4_appendText_X4_requireState rfl (by decide +kernel) rfl rfl ⟨Nat.le_of_ble_eq_true rfl, Nat.le_of_ble_eq_true rfl⟩ ⟨Nat.le_of_ble_eq_true rfl, Nat.le_of_ble_eq_true rfl⟩ [] (by decide) rfl rfl rfl (Nat.le_of_ble_eq_true rfl) dX4_appendText_26
set_option maxRecDepth 100000 in
set_option maxHeartbeats 4000000 in
theorem c_X4_appendText_c (l : Launch) (E : gEnv) (hx : Nat) (hp : Nat) (hg : Nat) (hh : Nat) (hsl : Nat) (hsv : Nat) (htx : Nat) (hc : Nat) (T : Nat → Nat) (tn : Nat) (pk : Int64) (k : Nat) (htn : tn ≤ 80) (hT : ∀ j, T j < 128) (hz : ccn 8 0 pk = nI k) (hk : 1 ≤ k) (hk8 : k ≤ 8) (hr : decide (tn + k ≤ 80) = true) (hnk : tn + k ≤ 80) : gM l yX4_appendText wsX4_appendText ({ frames := 1, cells := 0, slots := 0, locals := 26 } : Room) E [.ref hx, .long pk] [(hx, .inr (4, [.ref hp, .ref hg, .ref hh, .ref hsl, .ref hsv, .ref htx])), (htx, .inr (0, [.ref hc, .int (nI tn)])), (hc, .inl (E.2.1 1, 80, .inl (fun j => nI (T j))))] [(hx, .inr (4, [.ref hp, .ref hg, .ref hh, .ref hsl, .ref hsv, .ref htx])), (htx, .inr (0, [.ref hc, .int (nI (tn + k))])), (hc, .inl (E.2.1 1, 80, .inl (fun j => nI (apT T tn pk k 0 j))))] (some (.int (nI (tn + k)))) := by
  refine gM.ofG (cc := cX4_appendText) (nL := 4) (ret := (some .int)) (own := RX4) [(0, .ref hx), (1, .long pk)] (by decide) rfl rfl (Nat.le_of_ble_eq_true rfl) rfl rfl ?_
  intro pX eX sX mX bX tX cX A cx
  have hiX0 : ∀ w ∈ u_ws RX0 TX0 2, w ∈ wsX4_appendText := by decide +kernel
  have hiX4 : ∀ w ∈ u_ws RX4 TX4 6, w ∈ wsX4_appendText := by decide +kernel
  refine g_lload_n cx dX4_appendText_0 rfl ?_
  refine g_callS (ws' := [(hx, .inr (4, [.ref hp, .ref hg, .ref hh, .ref hsl, .ref hsv, .ref htx])), (htx, .inr (0, [.ref hc, .int (nI tn)])), (hc, .inl (E.2.1 1, 80, .inl (fun j => nI (T j))))]) (As := [.long pk]) (rest := []) (n := 1) cx (c_X0_countCharacters l E pk ) gX4_appendText_X0_countCharacters rfl (by decide +kernel) rfl rfl ⟨Nat.le_of_ble_eq_true rfl, Nat.le_of_ble_eq_true rfl⟩ ⟨Nat.zero_le _, Nat.zero_le _⟩ [] (by decide) rfl rfl rfl rfl (Nat.le_of_ble_eq_true rfl) dX4_appendText_1 ?_
  refine g_top (show (ccn 8 0 pk) = nI k from hz) ?_
  refine g_istore_n (lv' := [(3, .int (nI k)), (0, .ref hx), (1, .long pk)]) cx dX4_appendText_4 rfl (by decide) rfl ?_
  refine g_iload_n cx dX4_appendText_5 rfl ?_
  refine g_iconst cx dX4_appendText_6 kc_im1 ?_
  refine g_icmp_eq (tgt := 14) cx dX4_appendText_7 (by decide) (fun z1 => absurd z1 (nI_nm1 (by omega))) (fun z1 => ?_)
  refine g_iconst cx dX4_appendText_10 kc_i1 ?_
  refine g_goto (tgt := 15) cx dX4_appendText_11 (by decide) ?_
  refine g_callS (ws' := [(hx, .inr (4, [.ref hp, .ref hg, .ref hh, .ref hsl, .ref hsv, .ref htx])), (htx, .inr (0, [.ref hc, .int (nI tn)])), (hc, .inl (E.2.1 1, 80, .inl (fun j => nI (T j))))]) (As := [.int (nI 1)]) (rest := []) (n := 1) cx (c_X4_requireArgument_t l E true rfl) gX4_appendText_X4_requireArgument rfl (by decide +kernel) rfl rfl ⟨Nat.le_of_ble_eq_true rfl, Nat.le_of_ble_eq_true rfl⟩ ⟨Nat.zero_le _, Nat.zero_le _⟩ [] (by decide) rfl rfl rfl rfl (Nat.le_of_ble_eq_true rfl) dX4_appendText_15 ?_
  refine g_aload_n cx dX4_appendText_18 rfl ?_
  refine g_get (C := RX4) (T := TX4) (N := 6) (ci := 4) cx hiX4 0 5 (by decide) rfl (by decide +kernel) rfl rfl dX4_appendText_19 ?_
  refine g_iload_n cx dX4_appendText_22 rfl ?_
  refine g_callV (ws' := [(hx, .inr (4, [.ref hp, .ref hg, .ref hh, .ref hsl, .ref hsv, .ref htx])), (htx, .inr (0, [.ref hc, .int (nI tn)])), (hc, .inl (E.2.1 1, 80, .inl (fun j => nI (T j))))]) (As := [.int (nI k)]) (rest := []) (n := 1) (T := TX0) (N := 2) (ci := 0) cx (c_X0_hasRoomFor l E htx hc T tn k (by first | omega | exact hT _ | exact Nat.lt_trans (hT _) (by decide)) hT (by first | omega | exact hT _ | exact Nat.lt_trans (hT _) (by decide))) gX4_appendText_X0_hasRoomFor rfl (by decide +kernel) rfl rfl ⟨Nat.le_of_ble_eq_true rfl, Nat.le_of_ble_eq_true rfl⟩ ⟨Nat.zero_le _, Nat.zero_le _⟩ [1, 2] 1 rfl rfl (by decide) rfl rfl rfl rfl (Nat.le_of_ble_eq_true rfl) dX4_appendText_23 ?_
  refine g_callS (ws' := [(hx, .inr (4, [.ref hp, .ref hg, .ref hh, .ref hsl, .ref hsv, .ref htx])), (htx, .inr (0, [.ref hc, .int (nI tn)])), (hc, .inl (E.2.1 1, 80, .inl (fun j => nI (T j))))]) (As := [.int (gB (decide (tn + k ≤ 80)))]) (rest := []) (n := 1) cx (c_X4_requireState_t l E (decide (tn + k ≤ 80)) hr) gX4_appendText_X4_requireState rfl (by decide +kernel) rfl rfl ⟨Nat.le_of_ble_eq_true rfl, Nat.le_of_ble_eq_true rfl⟩ ⟨Nat.zero_le _, Nat.zero_le _⟩ [] (by decide) rfl rfl rfl rfl (Nat.le_of_ble_eq_true rfl) dX4_appendText_26 ?_
  refine g_aload_n cx dX4_appendText_29 rfl ?_
  refine g_get (C := RX4) (T := TX4) (N := 6) (ci := 4) cx hiX4 0 5 (by decide) rfl (by decide +kernel) rfl rfl dX4_appendText_30 ?_
  refine g_lload_n cx dX4_appendText_33 rfl ?_
  refine g_iload_n cx dX4_appendText_34 rfl ?_
  refine g_callV (ws' := [(hx, .inr (4, [.ref hp, .ref hg, .ref hh, .ref hsl, .ref hsv, .ref htx])), (htx, .inr (0, [.ref hc, .int (nI (tn + k))])), (hc, .inl (E.2.1 1, 80, .inl (fun j => nI (apT T tn pk k 0 j))))]) (As := [.long pk, .int (nI k)]) (rest := []) (n := 2) (T := TX0) (N := 2) (ci := 0) cx (c_X0_append l E htx hc T tn pk k (by first | omega | exact hT _ | exact Nat.lt_trans (hT _) (by decide)) hT (by first | omega | exact hT _ | exact Nat.lt_trans (hT _) (by decide)) (by first | omega | exact hT _ | exact Nat.lt_trans (hT _) (by decide)) (by first | omega | exact hT _ | exact Nat.lt_trans (hT _) (by decide))) gX4_appendText_X0_append rfl (by decide +kernel) rfl rfl ⟨Nat.le_of_ble_eq_true rfl, Nat.le_of_ble_eq_true rfl⟩ ⟨Nat.zero_le _, Nat.zero_le _⟩ [1, 2] 1 rfl rfl (by decide) rfl rfl rfl rfl (Nat.le_of_ble_eq_true rfl) dX4_appendText_35 ?_
  refine g_aload_n cx dX4_appendText_38 rfl ?_
  refine g_get (C := RX4) (T := TX4) (N := 6) (ci := 4) cx hiX4 0 5 (by decide) rfl (by decide +kernel) rfl rfl dX4_appendText_39 ?_
  refine g_get (C := RX0) (T := TX0) (N := 2) (ci := 0) cx hiX0 1 1 (by decide) rfl (by decide +kernel) rfl rfl dX4_appendText_42 ?_
  exact g_iretE cx dX4_appendText_45 (rfl) (rfl)
set_option maxRecDepth 100000 in
set_option maxHeartbeats 4000000 in
theorem c_X4_executeGrey (l : Launch) (E : gEnv) (hx : Nat) (hp : Nat) (hg : Nat) (hh : Nat) (hsl : Nat) (hsv : Nat) (htx : Nat) (ap : Nat) (f : Nat → Int32) (r : Int32) (t : Int32) (w : Bool) (v : Int32) (g : Int32)  : gM l yX4_executeGrey wsX4_executeGrey ({ frames := 1, cells := 0, slots := 0, locals := 23 } : Room) E [.ref hx, .int v, .int g] [(hx, .inr (4, [.ref hp, .ref hg, .ref hh, .ref hsl, .ref hsv, .ref htx])), (hp, .inr (3, [.ref ap, .int r, .int t, .int (gB w)])), (ap, .inl (E.2.1 0, 64, .inl f))] [(hx, .inr (4, [.ref hp, .ref hg, .ref hh, .ref hsl, .ref hsv, .ref htx])), (hp, .inr (3, [.ref ap, .int ((exG (f, r, w) v g).2.2.1), .int t, .int (gB ((exG (f, r, w) v g).2.2.2))])), (ap, .inl (E.2.1 0, 64, .inl ((exG (f, r, w) v g).2.1)))] (some (.int (gB ((exG (f, r, w) v g).1)))) := by
  refine gM.ofG (cc := cX4_executeGrey) (nL := 3) (ret := (some .boolean)) (own := RX4) [(0, .ref hx), (1, .int v), (2, .int g)] (by decide) rfl rfl (Nat.le_of_ble_eq_true rfl) rfl rfl ?_
  intro pX eX sX mX bX tX cX A cx
  have hiX4 : ∀ w ∈ u_ws RX4 TX4 6, w ∈ wsX4_executeGrey := by decide +kernel
  refine g_iload_n cx dX4_executeGrey_0 rfl ?_
  refine g_callS (ws' := [(hx, .inr (4, [.ref hp, .ref hg, .ref hh, .ref hsl, .ref hsv, .ref htx])), (hp, .inr (3, [.ref ap, .int r, .int t, .int (gB w)])), (ap, .inl (E.2.1 0, 64, .inl f))]) (As := [.int v]) (rest := []) (n := 1) cx (c_X4_isCell l E v ) gX4_executeGrey_X4_isCell rfl (by decide +kernel) rfl rfl ⟨Nat.le_of_ble_eq_true rfl, Nat.le_of_ble_eq_true rfl⟩ ⟨Nat.zero_le _, Nat.zero_le _⟩ [] (by decide) rfl rfl rfl rfl (Nat.le_of_ble_eq_true rfl) dX4_executeGrey_1 ?_
  refine g_if_eq (tgt := 14) cx dX4_executeGrey_4 (by decide) (fun z1 => ?_) (fun z1 => ?_)
  ·
    have z1 := gB_eq0 z1
    refine g_iconst cx dX4_executeGrey_14 kc_i0 ?_
    exact g_zretE cx (by decide +kernel) dX4_executeGrey_15 (by unfold exG; rw [if_neg (fun q => by simp_all)]) (by unfold exG; rw [if_neg (fun q => by simp_all)]; rfl)
  ·
    have z1 := gB_ne0 z1
    refine g_iload_n cx dX4_executeGrey_7 rfl ?_
    refine g_callS (ws' := [(hx, .inr (4, [.ref hp, .ref hg, .ref hh, .ref hsl, .ref hsv, .ref htx])), (hp, .inr (3, [.ref ap, .int r, .int t, .int (gB w)])), (ap, .inl (E.2.1 0, 64, .inl f))]) (As := [.int g]) (rest := []) (n := 1) cx (c_X4_isGrey l E g ) gX4_executeGrey_X4_isGrey rfl (by decide +kernel) rfl rfl ⟨Nat.le_of_ble_eq_true rfl, Nat.le_of_ble_eq_true rfl⟩ ⟨Nat.zero_le _, Nat.zero_le _⟩ [] (by decide) rfl rfl rfl rfl (Nat.le_of_ble_eq_true rfl) dX4_executeGrey_8 ?_
    refine g_if_ne (tgt := 16) cx dX4_executeGrey_11 (by decide) (fun z2 => ?_) (fun z2 => ?_)
    ·
      have z2 := gB_ne0 z2
      obtain ⟨c9, hc9, rfl⟩ := bR_N63 z1
      refine g_aload_n cx dX4_executeGrey_16 rfl ?_
      refine g_get (C := RX4) (T := TX4) (N := 6) (ci := 4) cx hiX4 0 0 (by decide) rfl (by decide +kernel) rfl rfl dX4_executeGrey_17 ?_
      refine g_iload_n cx dX4_executeGrey_20 rfl ?_
      refine g_iload_n cx dX4_executeGrey_21 rfl ?_
      refine g_callV (ws' := [(hx, .inr (4, [.ref hp, .ref hg, .ref hh, .ref hsl, .ref hsv, .ref htx])), (hp, .inr (3, [.ref ap, .int r, .int t, .int (gB w)])), (ap, .inl (E.2.1 0, 64, .inl (upd f c9 g)))]) (As := [.int (nI c9), .int g]) (rest := []) (n := 2) (T := TX3) (N := 4) (ci := 3) cx (c_X3_putGrey l E hp ap f r t w c9 g (by omega)) gX4_executeGrey_X3_putGrey rfl (by decide +kernel) rfl rfl ⟨Nat.le_of_ble_eq_true rfl, Nat.le_of_ble_eq_true rfl⟩ ⟨Nat.zero_le _, Nat.zero_le _⟩ [1, 2] 1 rfl rfl (by decide) rfl rfl rfl rfl (Nat.le_of_ble_eq_true rfl) dX4_executeGrey_22 ?_
      refine g_pop cx dX4_executeGrey_25 rfl ?_
      refine g_iconst cx dX4_executeGrey_26 kc_i1 ?_
      exact g_zretE cx (by decide +kernel) dX4_executeGrey_27 (by unfold exG; rw [if_pos ⟨by assumption, by assumption⟩, nI_clamp (by omega)]) (by unfold exG; rw [if_pos ⟨by assumption, by assumption⟩]; rfl)
    ·
      have z2 := gB_eq0 z2
      refine g_iconst cx dX4_executeGrey_14 kc_i0 ?_
      exact g_zretE cx (by decide +kernel) dX4_executeGrey_15 (by unfold exG; rw [if_neg (fun q => by simp_all)]) (by unfold exG; rw [if_neg (fun q => by simp_all)]; rfl)
set_option maxRecDepth 100000 in
set_option maxHeartbeats 4000000 in
theorem c_X4_executeThaw (l : Launch) (E : gEnv) (hx : Nat) (hp : Nat) (hg : Nat) (hh : Nat) (hsl : Nat) (hsv : Nat) (htx : Nat) (ap : Nat) (f : Nat → Int32) (r : Int32) (t : Int32) (w : Bool) (v : Int32)  : gM l yX4_executeThaw wsX4_executeThaw ({ frames := 2, cells := 0, slots := 0, locals := 62 } : Room) E [.ref hx, .int v] [(hx, .inr (4, [.ref hp, .ref hg, .ref hh, .ref hsl, .ref hsv, .ref htx])), (hp, .inr (3, [.ref ap, .int r, .int t, .int (gB w)])), (ap, .inl (E.2.1 0, 64, .inl f))] [(hx, .inr (4, [.ref hp, .ref hg, .ref hh, .ref hsl, .ref hsv, .ref htx])), (hp, .inr (3, [.ref ap, .int ((exH (f, r, w) v).2.2.1), .int t, .int (gB ((exH (f, r, w) v).2.2.2))])), (ap, .inl (E.2.1 0, 64, .inl ((exH (f, r, w) v).2.1)))] (some (.int (gB ((exH (f, r, w) v).1)))) := by
  refine gM.ofG (cc := cX4_executeThaw) (nL := 2) (ret := (some .boolean)) (own := RX4) [(0, .ref hx), (1, .int v)] (by decide) rfl rfl (Nat.le_of_ble_eq_true rfl) rfl rfl ?_
  intro pX eX sX mX bX tX cX A cx
  have hiX4 : ∀ w ∈ u_ws RX4 TX4 6, w ∈ wsX4_executeThaw := by decide +kernel
  refine g_iload_n cx dX4_executeThaw_0 rfl ?_
  refine g_callS (ws' := [(hx, .inr (4, [.ref hp, .ref hg, .ref hh, .ref hsl, .ref hsv, .ref htx])), (hp, .inr (3, [.ref ap, .int r, .int t, .int (gB w)])), (ap, .inl (E.2.1 0, 64, .inl f))]) (As := [.int v]) (rest := []) (n := 1) cx (c_X4_isAmount l E v ) gX4_executeThaw_X4_isAmount rfl (by decide +kernel) rfl rfl ⟨Nat.le_of_ble_eq_true rfl, Nat.le_of_ble_eq_true rfl⟩ ⟨Nat.zero_le _, Nat.zero_le _⟩ [] (by decide) rfl rfl rfl rfl (Nat.le_of_ble_eq_true rfl) dX4_executeThaw_1 ?_
  refine g_if_ne (tgt := 9) cx dX4_executeThaw_4 (by decide) (fun z1 => ?_) (fun z1 => ?_)
  ·
    have z1 := gB_ne0 z1
    refine g_aload_n cx dX4_executeThaw_9 rfl ?_
    refine g_get (C := RX4) (T := TX4) (N := 6) (ci := 4) cx hiX4 0 0 (by decide) rfl (by decide +kernel) rfl rfl dX4_executeThaw_10 ?_
    refine g_iload_n cx dX4_executeThaw_13 rfl ?_
    refine g_callV (ws' := [(hx, .inr (4, [.ref hp, .ref hg, .ref hh, .ref hsl, .ref hsv, .ref htx])), (hp, .inr (3, [.ref ap, .int r, .int t, .int (gB w)])), (ap, .inl (E.2.1 0, 64, .inl (mU (fun x => if x - v < nI 0 then nI 0 else x - v) f 64)))]) (As := [.int v]) (rest := []) (n := 1) (T := TX3) (N := 4) (ci := 3) cx (c_X3_lessen l E hp ap f r t w v ) gX4_executeThaw_X3_lessen rfl (by decide +kernel) rfl rfl ⟨Nat.le_of_ble_eq_true rfl, Nat.le_of_ble_eq_true rfl⟩ ⟨Nat.zero_le _, Nat.zero_le _⟩ [1, 2] 1 rfl rfl (by decide) rfl rfl rfl rfl (Nat.le_of_ble_eq_true rfl) dX4_executeThaw_14 ?_
    refine g_iconst cx dX4_executeThaw_17 kc_i1 ?_
    exact g_zretE cx (by decide +kernel) dX4_executeThaw_18 (by unfold exH; rw [if_pos (by assumption)]) (by unfold exH; rw [if_pos (by assumption)]; rfl)
  ·
    have z1 := gB_eq0 z1
    refine g_iconst cx dX4_executeThaw_7 kc_i0 ?_
    exact g_zretE cx (by decide +kernel) dX4_executeThaw_8 (by unfold exH; rw [if_neg (by rw [‹bR v 1 255 = false›]; exact Bool.false_ne_true)]) (by unfold exH; rw [if_neg (by rw [‹bR v 1 255 = false›]; exact Bool.false_ne_true)]; rfl)
set_option maxRecDepth 100000 in
set_option maxHeartbeats 4000000 in
theorem c_X4_executeRule (l : Launch) (E : gEnv) (hx : Nat) (hp : Nat) (hg : Nat) (hh : Nat) (hsl : Nat) (hsv : Nat) (htx : Nat) (ap : Nat) (f : Nat → Int32) (r : Int32) (t : Int32) (w : Bool) (v : Int32)  : gM l yX4_executeRule wsX4_executeRule ({ frames := 1, cells := 0, slots := 0, locals := 20 } : Room) E [.ref hx, .int v] [(hx, .inr (4, [.ref hp, .ref hg, .ref hh, .ref hsl, .ref hsv, .ref htx])), (hp, .inr (3, [.ref ap, .int r, .int t, .int (gB w)])), (ap, .inl (E.2.1 0, 64, .inl f))] [(hx, .inr (4, [.ref hp, .ref hg, .ref hh, .ref hsl, .ref hsv, .ref htx])), (hp, .inr (3, [.ref ap, .int ((exR (f, r, w) v).2.2.1), .int t, .int (gB ((exR (f, r, w) v).2.2.2))])), (ap, .inl (E.2.1 0, 64, .inl ((exR (f, r, w) v).2.1)))] (some (.int (gB ((exR (f, r, w) v).1)))) := by
  refine gM.ofG (cc := cX4_executeRule) (nL := 2) (ret := (some .boolean)) (own := RX4) [(0, .ref hx), (1, .int v)] (by decide) rfl rfl (Nat.le_of_ble_eq_true rfl) rfl rfl ?_
  intro pX eX sX mX bX tX cX A cx
  have hiX3 : ∀ w ∈ u_ws RX3 TX3 4, w ∈ wsX4_executeRule := by decide +kernel
  have hiX4 : ∀ w ∈ u_ws RX4 TX4 6, w ∈ wsX4_executeRule := by decide +kernel
  refine g_iload_n cx dX4_executeRule_0 rfl ?_
  refine g_callS (ws' := [(hx, .inr (4, [.ref hp, .ref hg, .ref hh, .ref hsl, .ref hsv, .ref htx])), (hp, .inr (3, [.ref ap, .int r, .int t, .int (gB w)])), (ap, .inl (E.2.1 0, 64, .inl f))]) (As := [.int v]) (rest := []) (n := 1) cx (c_X4_isRule l E v ) gX4_executeRule_X4_isRule rfl (by decide +kernel) rfl rfl ⟨Nat.le_of_ble_eq_true rfl, Nat.le_of_ble_eq_true rfl⟩ ⟨Nat.zero_le _, Nat.zero_le _⟩ [] (by decide) rfl rfl rfl rfl (Nat.le_of_ble_eq_true rfl) dX4_executeRule_1 ?_
  refine g_if_ne (tgt := 9) cx dX4_executeRule_4 (by decide) (fun z1 => ?_) (fun z1 => ?_)
  ·
    have z1 := gB_ne0 z1
    refine g_aload_n cx dX4_executeRule_9 rfl ?_
    refine g_get (C := RX4) (T := TX4) (N := 6) (ci := 4) cx hiX4 0 0 (by decide) rfl (by decide +kernel) rfl rfl dX4_executeRule_10 ?_
    refine g_iload_n cx dX4_executeRule_13 rfl ?_
    refine g_put (ws' := [(hx, .inr (4, [.ref hp, .ref hg, .ref hh, .ref hsl, .ref hsv, .ref htx])), (hp, .inr (3, [.ref ap, .int v, .int t, .int (gB w)])), (ap, .inl (E.2.1 0, 64, .inl f))]) (C := RX3) (T := TX3) (N := 4) (ci := 3) cx hiX3 tyX3 tyX3_ok nmX3 1 1 (by decide) rfl (by decide +kernel) rfl rfl rfl rfl rfl (Nat.le_of_ble_eq_true rfl) rfl dX4_executeRule_14 ?_
    refine g_iconst cx dX4_executeRule_17 kc_i1 ?_
    exact g_zretE cx (by decide +kernel) dX4_executeRule_18 (by unfold exR; rw [if_pos (by assumption)]) (by unfold exR; rw [if_pos (by assumption)]; rfl)
  ·
    have z1 := gB_eq0 z1
    refine g_iconst cx dX4_executeRule_7 kc_i0 ?_
    exact g_zretE cx (by decide +kernel) dX4_executeRule_8 (by unfold exR; rw [if_neg (by rw [‹bR v 0 3 = false›]; exact Bool.false_ne_true)]) (by unfold exR; rw [if_neg (by rw [‹bR v 0 3 = false›]; exact Bool.false_ne_true)]; rfl)
set_option maxRecDepth 100000 in
set_option maxHeartbeats 4000000 in
theorem c_X4_execute (l : Launch) (E : gEnv) (hx : Nat) (hp : Nat) (hg : Nat) (hh : Nat) (hsl : Nat) (hsv : Nat) (htx : Nat) (ap : Nat) (f : Nat → Int32) (r : Int32) (t : Int32) (w : Bool) (hc : Nat) (T : Nat → Nat) (tn : Nat) (i : Nat) (htn : tn ≤ 80) (hT : ∀ j, T j < 128) (hi : i < tn) : gM l yX4_execute wsX4_execute ({ frames := 3, cells := 0, slots := 0, locals := 83 } : Room) E [.ref hx, .int (nI i)] [(hx, .inr (4, [.ref hp, .ref hg, .ref hh, .ref hsl, .ref hsv, .ref htx])), (htx, .inr (0, [.ref hc, .int (nI tn)])), (hc, .inl (E.2.1 1, 80, .inl (fun j => nI (T j)))), (hp, .inr (3, [.ref ap, .int r, .int t, .int (gB w)])), (ap, .inl (E.2.1 0, 64, .inl f))] [(hx, .inr (4, [.ref hp, .ref hg, .ref hh, .ref hsl, .ref hsv, .ref htx])), (htx, .inr (0, [.ref hc, .int (nI tn)])), (hc, .inl (E.2.1 1, 80, .inl (fun j => nI (T j)))), (hp, .inr (3, [.ref ap, .int ((ex1 T tn i (f, r, w)).2.2.1), .int t, .int (gB ((ex1 T tn i (f, r, w)).2.2.2))])), (ap, .inl (E.2.1 0, 64, .inl ((ex1 T tn i (f, r, w)).2.1)))] (some (.int (gB ((ex1 T tn i (f, r, w)).1)))) := by
  refine gM.ofG (cc := cX4_execute) (nL := 2) (ret := (some .boolean)) (own := RX4) [(0, .ref hx), (1, .int (nI i))] (by decide) rfl rfl (Nat.le_of_ble_eq_true rfl) rfl rfl ?_
  intro pX eX sX mX bX tX cX A cx
  have hiX3 : ∀ w ∈ u_ws RX3 TX3 4, w ∈ wsX4_execute := by decide +kernel
  have hiX4 : ∀ w ∈ u_ws RX4 TX4 6, w ∈ wsX4_execute := by decide +kernel
  have hch := chr_lt hT tn i
  have hfl := fnd_le T tn 61 (tn - i) i (by omega)
  refine g_aload_n cx dX4_execute_0 rfl ?_
  refine g_get (C := RX4) (T := TX4) (N := 6) (ci := 4) cx hiX4 0 5 (by decide) rfl (by decide +kernel) rfl rfl dX4_execute_1 ?_
  refine g_iload_n cx dX4_execute_4 rfl ?_
  refine g_callV (ws' := [(hx, .inr (4, [.ref hp, .ref hg, .ref hh, .ref hsl, .ref hsv, .ref htx])), (htx, .inr (0, [.ref hc, .int (nI tn)])), (hc, .inl (E.2.1 1, 80, .inl (fun j => nI (T j)))), (hp, .inr (3, [.ref ap, .int r, .int t, .int (gB w)])), (ap, .inl (E.2.1 0, 64, .inl f))]) (As := [.int (nI i)]) (rest := []) (n := 1) (T := TX0) (N := 2) (ci := 0) cx (c_X0_characterAt l E htx hc T tn i (by first | omega | exact hT _ | exact Nat.lt_trans (hT _) (by decide)) hT (by first | omega | exact hT _ | exact Nat.lt_trans (hT _) (by decide))) gX4_execute_X0_characterAt rfl (by decide +kernel) rfl rfl ⟨Nat.le_of_ble_eq_true rfl, Nat.le_of_ble_eq_true rfl⟩ ⟨Nat.zero_le _, Nat.zero_le _⟩ [1, 2] 1 rfl rfl (by decide) rfl rfl rfl rfl (Nat.le_of_ble_eq_true rfl) dX4_execute_5 ?_
  by_cases h103_ : chr T tn i = 103
  ·
    refine g_lookup (x := nI (chr T tn i)) (tgt := 60) cx dX4_execute_8 (by decide +kernel) (show _ = (52 : Int) from by rw [h103_]; decide +kernel) (by decide) ?_
    refine g_aload_n cx dX4_execute_60 rfl ?_
    refine g_aload_n cx dX4_execute_61 rfl ?_
    refine g_get (C := RX4) (T := TX4) (N := 6) (ci := 4) cx hiX4 0 5 (by decide) rfl (by decide +kernel) rfl rfl dX4_execute_62 ?_
    refine g_iload_n cx dX4_execute_65 rfl ?_
    refine g_iconst cx dX4_execute_66 kc_i1 ?_
    refine g_iadd cx dX4_execute_67 ?_
    refine g_top (nI_add i 1) ?_
    refine g_callV (ws' := [(hx, .inr (4, [.ref hp, .ref hg, .ref hh, .ref hsl, .ref hsv, .ref htx])), (htx, .inr (0, [.ref hc, .int (nI tn)])), (hc, .inl (E.2.1 1, 80, .inl (fun j => nI (T j)))), (hp, .inr (3, [.ref ap, .int r, .int t, .int (gB w)])), (ap, .inl (E.2.1 0, 64, .inl f))]) (As := [.int (nI (i + 1))]) (rest := [.ref hx]) (n := 1) (T := TX0) (N := 2) (ci := 0) cx (c_X0_numberAt_w l E htx hc T tn (i + 1) (by first | omega | exact hT _ | exact Nat.lt_trans (hT _) (by decide)) hT (by first | omega | exact hT _ | exact Nat.lt_trans (hT _) (by decide))) gX4_execute_X0_numberAt rfl (by decide +kernel) rfl rfl ⟨Nat.le_of_ble_eq_true rfl, Nat.le_of_ble_eq_true rfl⟩ ⟨Nat.zero_le _, Nat.zero_le _⟩ [1, 2] 1 rfl rfl (by decide) rfl rfl rfl rfl (Nat.le_of_ble_eq_true rfl) dX4_execute_68 ?_
    refine g_aload_n cx dX4_execute_71 rfl ?_
    refine g_get (C := RX4) (T := TX4) (N := 6) (ci := 4) cx hiX4 0 5 (by decide) rfl (by decide +kernel) rfl rfl dX4_execute_72 ?_
    refine g_aload_n cx dX4_execute_75 rfl ?_
    refine g_get (C := RX4) (T := TX4) (N := 6) (ci := 4) cx hiX4 0 5 (by decide) rfl (by decide +kernel) rfl rfl dX4_execute_76 ?_
    refine g_bipush cx dX4_execute_79 kc_b61 ?_
    refine g_iload_n cx dX4_execute_81 rfl ?_
    refine g_callV (ws' := [(hx, .inr (4, [.ref hp, .ref hg, .ref hh, .ref hsl, .ref hsv, .ref htx])), (htx, .inr (0, [.ref hc, .int (nI tn)])), (hc, .inl (E.2.1 1, 80, .inl (fun j => nI (T j)))), (hp, .inr (3, [.ref ap, .int r, .int t, .int (gB w)])), (ap, .inl (E.2.1 0, 64, .inl f))]) (As := [.int (nI 61), .int (nI i)]) (rest := [.ref htx, .int (nI (nmb T tn (tn - (i + 1)) (i + 1) 0)), .ref hx]) (n := 2) (T := TX0) (N := 2) (ci := 0) cx (c_X0_find l E htx hc T tn 61 i (by first | omega | exact hT _ | exact Nat.lt_trans (hT _) (by decide)) hT (by first | omega | exact hT _ | exact Nat.lt_trans (hT _) (by decide)) (by first | omega | exact hT _ | exact Nat.lt_trans (hT _) (by decide))) gX4_execute_X0_find rfl (by decide +kernel) rfl rfl ⟨Nat.le_of_ble_eq_true rfl, Nat.le_of_ble_eq_true rfl⟩ ⟨Nat.zero_le _, Nat.zero_le _⟩ [1, 2] 1 rfl rfl (by decide) rfl rfl rfl rfl (Nat.le_of_ble_eq_true rfl) dX4_execute_82 ?_
    refine g_iconst cx dX4_execute_85 kc_i1 ?_
    refine g_iadd cx dX4_execute_86 ?_
    refine g_top (nI_add (fnd T tn 61 (tn - i) i) 1) ?_
    refine g_callV (ws' := [(hx, .inr (4, [.ref hp, .ref hg, .ref hh, .ref hsl, .ref hsv, .ref htx])), (htx, .inr (0, [.ref hc, .int (nI tn)])), (hc, .inl (E.2.1 1, 80, .inl (fun j => nI (T j)))), (hp, .inr (3, [.ref ap, .int r, .int t, .int (gB w)])), (ap, .inl (E.2.1 0, 64, .inl f))]) (As := [.int (nI ((fnd T tn 61 (tn - i) i) + 1))]) (rest := [.int (nI (nmb T tn (tn - (i + 1)) (i + 1) 0)), .ref hx]) (n := 1) (T := TX0) (N := 2) (ci := 0) cx (c_X0_numberAt_w l E htx hc T tn ((fnd T tn 61 (tn - i) i) + 1) (by first | omega | exact hT _ | exact Nat.lt_trans (hT _) (by decide)) hT (by first | omega | exact hT _ | exact Nat.lt_trans (hT _) (by decide))) gX4_execute_X0_numberAt rfl (by decide +kernel) rfl rfl ⟨Nat.le_of_ble_eq_true rfl, Nat.le_of_ble_eq_true rfl⟩ ⟨Nat.zero_le _, Nat.zero_le _⟩ [1, 2] 1 rfl rfl (by decide) rfl rfl rfl rfl (Nat.le_of_ble_eq_true rfl) dX4_execute_87 ?_
    refine g_callV (ws' := [(hx, .inr (4, [.ref hp, .ref hg, .ref hh, .ref hsl, .ref hsv, .ref htx])), (htx, .inr (0, [.ref hc, .int (nI tn)])), (hc, .inl (E.2.1 1, 80, .inl (fun j => nI (T j)))), (hp, .inr (3, [.ref ap, .int ((exG (f, r, w) (nI (nmb T tn (tn - (i + 1)) (i + 1) 0)) (nI (nmb T tn (tn - ((fnd T tn 61 (tn - i) i) + 1)) ((fnd T tn 61 (tn - i) i) + 1) 0))).2.2.1), .int t, .int (gB ((exG (f, r, w) (nI (nmb T tn (tn - (i + 1)) (i + 1) 0)) (nI (nmb T tn (tn - ((fnd T tn 61 (tn - i) i) + 1)) ((fnd T tn 61 (tn - i) i) + 1) 0))).2.2.2))])), (ap, .inl (E.2.1 0, 64, .inl ((exG (f, r, w) (nI (nmb T tn (tn - (i + 1)) (i + 1) 0)) (nI (nmb T tn (tn - ((fnd T tn 61 (tn - i) i) + 1)) ((fnd T tn 61 (tn - i) i) + 1) 0))).2.1)))]) (As := [.int (nI (nmb T tn (tn - (i + 1)) (i + 1) 0)), .int (nI (nmb T tn (tn - ((fnd T tn 61 (tn - i) i) + 1)) ((fnd T tn 61 (tn - i) i) + 1) 0))]) (rest := []) (n := 2) (T := TX4) (N := 6) (ci := 4) cx (c_X4_executeGrey l E hx hp hg hh hsl hsv htx ap f r t w (nI (nmb T tn (tn - (i + 1)) (i + 1) 0)) (nI (nmb T tn (tn - ((fnd T tn 61 (tn - i) i) + 1)) ((fnd T tn 61 (tn - i) i) + 1) 0)) ) gX4_execute_X4_executeGrey rfl (by decide +kernel) rfl rfl ⟨Nat.le_of_ble_eq_true rfl, Nat.le_of_ble_eq_true rfl⟩ ⟨Nat.zero_le _, Nat.zero_le _⟩ [0, 3, 4] 0 rfl rfl (by decide) rfl rfl rfl rfl (Nat.le_of_ble_eq_true rfl) dX4_execute_90 ?_
    exact g_zretE cx (gB_nar _) dX4_execute_93 (by unfold ex1; rw [if_pos h103_] <;> rfl) (by unfold ex1; rw [if_pos h103_] <;> rfl)
  ·
    by_cases h105_ : chr T tn i = 105
    ·
      refine g_lookup (x := nI (chr T tn i)) (tgt := 94) cx dX4_execute_8 (by decide +kernel) (show _ = (86 : Int) from by rw [h105_]; decide +kernel) (by decide) ?_
      refine g_aload_n cx dX4_execute_94 rfl ?_
      refine g_get (C := RX4) (T := TX4) (N := 6) (ci := 4) cx hiX4 0 0 (by decide) rfl (by decide +kernel) rfl rfl dX4_execute_95 ?_
      refine g_callV (ws' := [(hx, .inr (4, [.ref hp, .ref hg, .ref hh, .ref hsl, .ref hsv, .ref htx])), (htx, .inr (0, [.ref hc, .int (nI tn)])), (hc, .inl (E.2.1 1, 80, .inl (fun j => nI (T j)))), (hp, .inr (3, [.ref ap, .int r, .int t, .int (gB w)])), (ap, .inl (E.2.1 0, 64, .inl (mU (fun x => nI 255 - x) f 64)))]) (As := []) (rest := []) (n := 0) (T := TX3) (N := 4) (ci := 3) cx (c_X3_turnOver l E hp ap f r t w ) gX4_execute_X3_turnOver rfl (by decide +kernel) rfl rfl ⟨Nat.le_of_ble_eq_true rfl, Nat.le_of_ble_eq_true rfl⟩ ⟨Nat.zero_le _, Nat.zero_le _⟩ [3, 4] 3 rfl rfl (by decide) rfl rfl rfl rfl (Nat.le_of_ble_eq_true rfl) dX4_execute_98 ?_
      refine g_iconst cx dX4_execute_101 kc_i1 ?_
      exact g_zretE cx (by decide +kernel) dX4_execute_102 (by unfold ex1; rw [if_neg h103_, if_pos h105_] <;> rfl) (by unfold ex1; rw [if_neg h103_, if_pos h105_] <;> rfl)
    ·
      by_cases h114_ : chr T tn i = 114
      ·
        refine g_lookup (x := nI (chr T tn i)) (tgt := 142) cx dX4_execute_8 (by decide +kernel) (show _ = (134 : Int) from by rw [h114_]; decide +kernel) (by decide) ?_
        refine g_aload_n cx dX4_execute_142 rfl ?_
        refine g_aload_n cx dX4_execute_143 rfl ?_
        refine g_get (C := RX4) (T := TX4) (N := 6) (ci := 4) cx hiX4 0 5 (by decide) rfl (by decide +kernel) rfl rfl dX4_execute_144 ?_
        refine g_iload_n cx dX4_execute_147 rfl ?_
        refine g_iconst cx dX4_execute_148 kc_i1 ?_
        refine g_iadd cx dX4_execute_149 ?_
        refine g_top (nI_add i 1) ?_
        refine g_callV (ws' := [(hx, .inr (4, [.ref hp, .ref hg, .ref hh, .ref hsl, .ref hsv, .ref htx])), (htx, .inr (0, [.ref hc, .int (nI tn)])), (hc, .inl (E.2.1 1, 80, .inl (fun j => nI (T j)))), (hp, .inr (3, [.ref ap, .int r, .int t, .int (gB w)])), (ap, .inl (E.2.1 0, 64, .inl f))]) (As := [.int (nI (i + 1))]) (rest := [.ref hx]) (n := 1) (T := TX0) (N := 2) (ci := 0) cx (c_X0_numberAt_w l E htx hc T tn (i + 1) (by first | omega | exact hT _ | exact Nat.lt_trans (hT _) (by decide)) hT (by first | omega | exact hT _ | exact Nat.lt_trans (hT _) (by decide))) gX4_execute_X0_numberAt rfl (by decide +kernel) rfl rfl ⟨Nat.le_of_ble_eq_true rfl, Nat.le_of_ble_eq_true rfl⟩ ⟨Nat.zero_le _, Nat.zero_le _⟩ [1, 2] 1 rfl rfl (by decide) rfl rfl rfl rfl (Nat.le_of_ble_eq_true rfl) dX4_execute_150 ?_
        refine g_callV (ws' := [(hx, .inr (4, [.ref hp, .ref hg, .ref hh, .ref hsl, .ref hsv, .ref htx])), (htx, .inr (0, [.ref hc, .int (nI tn)])), (hc, .inl (E.2.1 1, 80, .inl (fun j => nI (T j)))), (hp, .inr (3, [.ref ap, .int ((exR (f, r, w) (nI (nmb T tn (tn - (i + 1)) (i + 1) 0))).2.2.1), .int t, .int (gB ((exR (f, r, w) (nI (nmb T tn (tn - (i + 1)) (i + 1) 0))).2.2.2))])), (ap, .inl (E.2.1 0, 64, .inl ((exR (f, r, w) (nI (nmb T tn (tn - (i + 1)) (i + 1) 0))).2.1)))]) (As := [.int (nI (nmb T tn (tn - (i + 1)) (i + 1) 0))]) (rest := []) (n := 1) (T := TX4) (N := 6) (ci := 4) cx (c_X4_executeRule l E hx hp hg hh hsl hsv htx ap f r t w (nI (nmb T tn (tn - (i + 1)) (i + 1) 0)) ) gX4_execute_X4_executeRule rfl (by decide +kernel) rfl rfl ⟨Nat.le_of_ble_eq_true rfl, Nat.le_of_ble_eq_true rfl⟩ ⟨Nat.zero_le _, Nat.zero_le _⟩ [0, 3, 4] 0 rfl rfl (by decide) rfl rfl rfl rfl (Nat.le_of_ble_eq_true rfl) dX4_execute_153 ?_
        exact g_zretE cx (gB_nar _) dX4_execute_156 (by unfold ex1; rw [if_neg h103_, if_neg h105_, if_pos h114_] <;> rfl) (by unfold ex1; rw [if_neg h103_, if_neg h105_, if_pos h114_] <;> rfl)
      ·
        by_cases h116_ : chr T tn i = 116
        ·
          refine g_lookup (x := nI (chr T tn i)) (tgt := 103) cx dX4_execute_8 (by decide +kernel) (show _ = (95 : Int) from by rw [h116_]; decide +kernel) (by decide) ?_
          refine g_aload_n cx dX4_execute_103 rfl ?_
          refine g_aload_n cx dX4_execute_104 rfl ?_
          refine g_get (C := RX4) (T := TX4) (N := 6) (ci := 4) cx hiX4 0 5 (by decide) rfl (by decide +kernel) rfl rfl dX4_execute_105 ?_
          refine g_iload_n cx dX4_execute_108 rfl ?_
          refine g_iconst cx dX4_execute_109 kc_i1 ?_
          refine g_iadd cx dX4_execute_110 ?_
          refine g_top (nI_add i 1) ?_
          refine g_callV (ws' := [(hx, .inr (4, [.ref hp, .ref hg, .ref hh, .ref hsl, .ref hsv, .ref htx])), (htx, .inr (0, [.ref hc, .int (nI tn)])), (hc, .inl (E.2.1 1, 80, .inl (fun j => nI (T j)))), (hp, .inr (3, [.ref ap, .int r, .int t, .int (gB w)])), (ap, .inl (E.2.1 0, 64, .inl f))]) (As := [.int (nI (i + 1))]) (rest := [.ref hx]) (n := 1) (T := TX0) (N := 2) (ci := 0) cx (c_X0_numberAt_w l E htx hc T tn (i + 1) (by first | omega | exact hT _ | exact Nat.lt_trans (hT _) (by decide)) hT (by first | omega | exact hT _ | exact Nat.lt_trans (hT _) (by decide))) gX4_execute_X0_numberAt rfl (by decide +kernel) rfl rfl ⟨Nat.le_of_ble_eq_true rfl, Nat.le_of_ble_eq_true rfl⟩ ⟨Nat.zero_le _, Nat.zero_le _⟩ [1, 2] 1 rfl rfl (by decide) rfl rfl rfl rfl (Nat.le_of_ble_eq_true rfl) dX4_execute_111 ?_
          refine g_callV (ws' := [(hx, .inr (4, [.ref hp, .ref hg, .ref hh, .ref hsl, .ref hsv, .ref htx])), (htx, .inr (0, [.ref hc, .int (nI tn)])), (hc, .inl (E.2.1 1, 80, .inl (fun j => nI (T j)))), (hp, .inr (3, [.ref ap, .int ((exH (f, r, w) (nI (nmb T tn (tn - (i + 1)) (i + 1) 0))).2.2.1), .int t, .int (gB ((exH (f, r, w) (nI (nmb T tn (tn - (i + 1)) (i + 1) 0))).2.2.2))])), (ap, .inl (E.2.1 0, 64, .inl ((exH (f, r, w) (nI (nmb T tn (tn - (i + 1)) (i + 1) 0))).2.1)))]) (As := [.int (nI (nmb T tn (tn - (i + 1)) (i + 1) 0))]) (rest := []) (n := 1) (T := TX4) (N := 6) (ci := 4) cx (c_X4_executeThaw l E hx hp hg hh hsl hsv htx ap f r t w (nI (nmb T tn (tn - (i + 1)) (i + 1) 0)) ) gX4_execute_X4_executeThaw rfl (by decide +kernel) rfl rfl ⟨Nat.le_of_ble_eq_true rfl, Nat.le_of_ble_eq_true rfl⟩ ⟨Nat.zero_le _, Nat.zero_le _⟩ [0, 3, 4] 0 rfl rfl (by decide) rfl rfl rfl rfl (Nat.le_of_ble_eq_true rfl) dX4_execute_114 ?_
          exact g_zretE cx (gB_nar _) dX4_execute_117 (by unfold ex1; rw [if_neg h103_, if_neg h105_, if_neg h114_, if_pos h116_] <;> rfl) (by unfold ex1; rw [if_neg h103_, if_neg h105_, if_neg h114_, if_pos h116_] <;> rfl)
        ·
          by_cases h119_ : chr T tn i = 119
          ·
            refine g_lookup (x := nI (chr T tn i)) (tgt := 118) cx dX4_execute_8 (by decide +kernel) (show _ = (110 : Int) from by rw [h119_]; decide +kernel) (by decide) ?_
            refine g_aload_n cx dX4_execute_118 rfl ?_
            refine g_get (C := RX4) (T := TX4) (N := 6) (ci := 4) cx hiX4 0 0 (by decide) rfl (by decide +kernel) rfl rfl dX4_execute_119 ?_
            refine g_aload_n cx dX4_execute_122 rfl ?_
            refine g_get (C := RX4) (T := TX4) (N := 6) (ci := 4) cx hiX4 0 0 (by decide) rfl (by decide +kernel) rfl rfl dX4_execute_123 ?_
            refine g_get (C := RX3) (T := TX3) (N := 4) (ci := 3) cx hiX3 3 3 (by decide) rfl (by decide +kernel) rfl rfl dX4_execute_126 ?_
            refine g_if_ne (tgt := 136) cx dX4_execute_129 (by decide) (fun z1 => ?_) (fun z1 => ?_)
            ·
              have z1 := gB_ne0 z1
              refine g_iconst cx dX4_execute_136 kc_i0 ?_
              refine g_top (show (nI 0) = gB (!w) from (by first | exact gB_of (by simp_all) | exact gB_off (by simp_all))) ?_
              refine g_put (ws' := [(hx, .inr (4, [.ref hp, .ref hg, .ref hh, .ref hsl, .ref hsv, .ref htx])), (htx, .inr (0, [.ref hc, .int (nI tn)])), (hc, .inl (E.2.1 1, 80, .inl (fun j => nI (T j)))), (hp, .inr (3, [.ref ap, .int r, .int t, .int (gB (!w))])), (ap, .inl (E.2.1 0, 64, .inl f))]) (C := RX3) (T := TX3) (N := 4) (ci := 3) cx hiX3 tyX3 tyX3_ok nmX3 3 3 (by decide) rfl (by decide +kernel) rfl rfl rfl (gB_nar _) (gB_fit _) (Nat.le_of_ble_eq_true rfl) rfl dX4_execute_137 ?_
              refine g_iconst cx dX4_execute_140 kc_i1 ?_
              exact g_zretE cx (by decide +kernel) dX4_execute_141 (by unfold ex1; rw [if_neg h103_, if_neg h105_, if_neg h114_, if_neg h116_, if_pos h119_] <;> rfl) (by unfold ex1; rw [if_neg h103_, if_neg h105_, if_neg h114_, if_neg h116_, if_pos h119_] <;> rfl)
            ·
              have z1 := gB_eq0 z1
              refine g_iconst cx dX4_execute_132 kc_i1 ?_
              refine g_goto (tgt := 137) cx dX4_execute_133 (by decide) ?_
              refine g_top (show (nI 1) = gB (!w) from (by first | exact gB_of (by simp_all) | exact gB_off (by simp_all))) ?_
              refine g_put (ws' := [(hx, .inr (4, [.ref hp, .ref hg, .ref hh, .ref hsl, .ref hsv, .ref htx])), (htx, .inr (0, [.ref hc, .int (nI tn)])), (hc, .inl (E.2.1 1, 80, .inl (fun j => nI (T j)))), (hp, .inr (3, [.ref ap, .int r, .int t, .int (gB (!w))])), (ap, .inl (E.2.1 0, 64, .inl f))]) (C := RX3) (T := TX3) (N := 4) (ci := 3) cx hiX3 tyX3 tyX3_ok nmX3 3 3 (by decide) rfl (by decide +kernel) rfl rfl rfl (gB_nar _) (gB_fit _) (Nat.le_of_ble_eq_true rfl) rfl dX4_execute_137 ?_
              refine g_iconst cx dX4_execute_140 kc_i1 ?_
              exact g_zretE cx (by decide +kernel) dX4_execute_141 (by unfold ex1; rw [if_neg h103_, if_neg h105_, if_neg h114_, if_neg h116_, if_pos h119_] <;> rfl) (by unfold ex1; rw [if_neg h103_, if_neg h105_, if_neg h114_, if_neg h116_, if_pos h119_] <;> rfl)
          ·
            refine g_lookup (x := nI (chr T tn i)) (tgt := 157) cx dX4_execute_8 (by decide +kernel) (show _ = (149 : Int) from (by rw [nI_toInt (by first | omega | exact hT _ | exact Nat.lt_trans (hT _) (by decide))]; exact lk_b (chr T tn i) hch h103_ h105_ h114_ h116_ h119_)) (by decide) ?_
            refine g_iconst cx dX4_execute_157 kc_i0 ?_
            exact g_zretE cx (by decide +kernel) dX4_execute_158 (by unfold ex1; rw [if_neg h103_, if_neg h105_, if_neg h114_, if_neg h116_, if_neg h119_] <;> rfl) (by unfold ex1; rw [if_neg h103_, if_neg h105_, if_neg h114_, if_neg h116_, if_neg h119_] <;> rfl)
set_option maxRecDepth 100000 in
set_option maxHeartbeats 4000000 in
theorem c_X4_executeCommands (l : Launch) (E : gEnv) (hx : Nat) (hp : Nat) (hg : Nat) (hh : Nat) (hsl : Nat) (hsv : Nat) (htx : Nat) (ap : Nat) (f : Nat → Int32) (r : Int32) (t : Int32) (w : Bool) (hc : Nat) (T : Nat → Nat) (tn : Nat) (htn : tn ≤ 80) (hT : ∀ j, T j < 128) : gM l yX4_executeCommands wsX4_executeCommands ({ frames := 4, cells := 0, slots := 0, locals := 104 } : Room) E [.ref hx] [(hx, .inr (4, [.ref hp, .ref hg, .ref hh, .ref hsl, .ref hsv, .ref htx])), (htx, .inr (0, [.ref hc, .int (nI tn)])), (hc, .inl (E.2.1 1, 80, .inl (fun j => nI (T j)))), (hp, .inr (3, [.ref ap, .int r, .int t, .int (gB w)])), (ap, .inl (E.2.1 0, 64, .inl f))] [(hx, .inr (4, [.ref hp, .ref hg, .ref hh, .ref hsl, .ref hsv, .ref htx])), (htx, .inr (0, [.ref hc, .int (nI tn)])), (hc, .inl (E.2.1 1, 80, .inl (fun j => nI (T j)))), (hp, .inr (3, [.ref ap, .int ((exA T tn tn 0 0 (f, r, w)).2.2.1), .int t, .int (gB ((exA T tn tn 0 0 (f, r, w)).2.2.2))])), (ap, .inl (E.2.1 0, 64, .inl ((exA T tn tn 0 0 (f, r, w)).2.1)))] (some (.int (nI ((exA T tn tn 0 0 (f, r, w)).1)))) := by
  refine gM.ofG (cc := cX4_executeCommands) (nL := 3) (ret := (some .int)) (own := RX4) [(0, .ref hx)] (by decide) rfl rfl (Nat.le_of_ble_eq_true rfl) rfl rfl ?_
  intro pX eX sX mX bX tX cX A cx
  have hiX0 : ∀ w ∈ u_ws RX0 TX0 2, w ∈ wsX4_executeCommands := by decide +kernel
  have hiX4 : ∀ w ∈ u_ws RX4 TX4 6, w ∈ wsX4_executeCommands := by decide +kernel
  refine g_iconst cx dX4_executeCommands_0 kc_i0 ?_
  refine g_istore_n (lv' := [(1, .int (nI 0)), (0, .ref hx)]) cx dX4_executeCommands_1 rfl (by decide) rfl ?_
  refine g_iconst cx dX4_executeCommands_2 kc_i0 ?_
  refine g_istore_n (lv' := [(2, .int (nI 0)), (1, .int (nI 0)), (0, .ref hx)]) cx dX4_executeCommands_3 rfl (by decide) rfl ?_
  have L4 : ∀ (n_ : Nat) (i : Nat) (k : Nat) (g : Nat → Int32) (q : Int32) (u : Bool), tn - i < n_ → i ≤ tn → exA T tn (tn - i) i k (g, q, u) = (exA T tn tn 0 0 (f, r, w)) → gG pX l eX ({ frames := 4, cells := 0, slots := 0, locals := 104 } : Room) sX mX ([.ref hx] : List Value).toArray bX tX cX 3 E A (MQ bX (gQ E [(hx, .inr (4, [.ref hp, .ref hg, .ref hh, .ref hsl, .ref hsv, .ref htx])), (htx, .inr (0, [.ref hc, .int (nI tn)])), (hc, .inl (E.2.1 1, 80, .inl (fun j => nI (T j)))), (hp, .inr (3, [.ref ap, .int ((exA T tn tn 0 0 (f, r, w)).2.2.1), .int t, .int (gB ((exA T tn tn 0 0 (f, r, w)).2.2.2))])), (ap, .inl (E.2.1 0, 64, .inl ((exA T tn tn 0 0 (f, r, w)).2.1)))] (some (.int (nI ((exA T tn tn 0 0 (f, r, w)).1)))) A) ([.ref hx] : List Value).toArray sX 0 0 A) 0 0 [(hx, .inr (4, [.ref hp, .ref hg, .ref hh, .ref hsl, .ref hsv, .ref htx])), (htx, .inr (0, [.ref hc, .int (nI tn)])), (hc, .inl (E.2.1 1, 80, .inl (fun j => nI (T j)))), (hp, .inr (3, [.ref ap, .int q, .int t, .int (gB u)])), (ap, .inl (E.2.1 0, 64, .inl g))] [(0, .ref hx), (1, .int (nI k)), (2, .int (nI i))] [] 4 := by
    intro n_
    induction n_ with
    | zero => intro i k g q u hm_; exact absurd hm_ (Nat.not_lt_zero _)
    | succ n_ ih_L4 =>
      intro i k g q u hm_ hi hz
      refine g_iload_n cx dX4_executeCommands_4 rfl ?_
      refine g_aload_n cx dX4_executeCommands_5 rfl ?_
      refine g_get (C := RX4) (T := TX4) (N := 6) (ci := 4) cx hiX4 0 5 (by decide) rfl (by decide +kernel) rfl rfl dX4_executeCommands_6 ?_
      refine g_get (C := RX0) (T := TX0) (N := 2) (ci := 0) cx hiX0 1 1 (by decide) rfl (by decide +kernel) rfl rfl dX4_executeCommands_9 ?_
      refine g_icmp_ge (tgt := 45) cx dX4_executeCommands_12 (by decide) (fun z1 => ?_) (fun z1 => ?_)
      ·
        have z1 := gn_le (a := tn) (b := i) (by first | omega | exact hT _ | exact Nat.lt_trans (hT _) (by decide)) (by first | omega | exact hT _ | exact Nat.lt_trans (hT _) (by decide)) z1
        refine g_iload_n cx dX4_executeCommands_45 rfl ?_
        exact g_iretE cx dX4_executeCommands_46 (by rw [← hz, show tn - i = 0 from by omega]; rfl) (by rw [← hz, show tn - i = 0 from by omega]; rfl)
      ·
        have z1 := gn_nle (a := tn) (b := i) (by first | omega | exact hT _ | exact Nat.lt_trans (hT _) (by decide)) (by first | omega | exact hT _ | exact Nat.lt_trans (hT _) (by decide)) z1
        refine g_aload_n cx dX4_executeCommands_15 rfl ?_
        refine g_get (C := RX4) (T := TX4) (N := 6) (ci := 4) cx hiX4 0 5 (by decide) rfl (by decide +kernel) rfl rfl dX4_executeCommands_16 ?_
        refine g_iload_n cx dX4_executeCommands_19 rfl ?_
        refine g_callV (ws' := [(hx, .inr (4, [.ref hp, .ref hg, .ref hh, .ref hsl, .ref hsv, .ref htx])), (htx, .inr (0, [.ref hc, .int (nI tn)])), (hc, .inl (E.2.1 1, 80, .inl (fun j => nI (T j)))), (hp, .inr (3, [.ref ap, .int q, .int t, .int (gB u)])), (ap, .inl (E.2.1 0, 64, .inl g))]) (As := [.int (nI i)]) (rest := []) (n := 1) (T := TX0) (N := 2) (ci := 0) cx (c_X0_beginsCommand l E htx hc T tn i (by first | omega | exact hT _ | exact Nat.lt_trans (hT _) (by decide)) hT (by first | omega | exact hT _ | exact Nat.lt_trans (hT _) (by decide))) gX4_executeCommands_X0_beginsCommand rfl (by decide +kernel) rfl rfl ⟨Nat.le_of_ble_eq_true rfl, Nat.le_of_ble_eq_true rfl⟩ ⟨Nat.zero_le _, Nat.zero_le _⟩ [1, 2] 1 rfl rfl (by decide) rfl rfl rfl rfl (Nat.le_of_ble_eq_true rfl) dX4_executeCommands_20 ?_
        refine g_if_eq (tgt := 39) cx dX4_executeCommands_23 (by decide) (fun z2 => ?_) (fun z2 => ?_)
        ·
          have z2 := gB_eq0 z2
          refine g_iinc (lv' := [(2, .int (nI (i + 1))), (0, .ref hx), (1, .int (nI k))]) (k := 2) cx dX4_executeCommands_39 rfl (gn_inc1 i) (by decide) rfl ?_
          refine g_goto (tgt := 4) cx dX4_executeCommands_42 (by decide) ?_
          refine g_lv [1, 2, 0] rfl ?_
          exact ih_L4 (i + 1) k g q u (by first | omega | exact hT _ | exact Nat.lt_trans (hT _) (by decide)) (by omega) ((exA_n (by omega) z2).symm.trans hz)
        ·
          have z2 := gB_ne0 z2
          refine g_aload_n cx dX4_executeCommands_26 rfl ?_
          refine g_iload_n cx dX4_executeCommands_27 rfl ?_
          refine g_callV (ws' := [(hx, .inr (4, [.ref hp, .ref hg, .ref hh, .ref hsl, .ref hsv, .ref htx])), (htx, .inr (0, [.ref hc, .int (nI tn)])), (hc, .inl (E.2.1 1, 80, .inl (fun j => nI (T j)))), (hp, .inr (3, [.ref ap, .int ((ex1 T tn i (g, q, u)).2.2.1), .int t, .int (gB ((ex1 T tn i (g, q, u)).2.2.2))])), (ap, .inl (E.2.1 0, 64, .inl ((ex1 T tn i (g, q, u)).2.1)))]) (As := [.int (nI i)]) (rest := []) (n := 1) (T := TX4) (N := 6) (ci := 4) cx (c_X4_execute l E hx hp hg hh hsl hsv htx ap g q t u hc T tn i (by first | omega | exact hT _ | exact Nat.lt_trans (hT _) (by decide)) hT (by first | omega | exact hT _ | exact Nat.lt_trans (hT _) (by decide))) gX4_executeCommands_X4_execute rfl (by decide +kernel) rfl rfl ⟨Nat.le_of_ble_eq_true rfl, Nat.le_of_ble_eq_true rfl⟩ ⟨Nat.zero_le _, Nat.zero_le _⟩ [0, 1, 2, 3, 4] 0 rfl rfl (by decide) rfl rfl rfl rfl (Nat.le_of_ble_eq_true rfl) dX4_executeCommands_28 ?_
          refine g_if_ne (tgt := 36) cx dX4_executeCommands_31 (by decide) (fun z3 => ?_) (fun z3 => ?_)
          ·
            have z3 := gB_ne0 z3
            refine g_iinc (lv' := [(1, .int (nI (k + 1))), (0, .ref hx), (2, .int (nI i))]) (k := 1) cx dX4_executeCommands_36 rfl (gn_inc1 k) (by decide) rfl ?_
            refine g_iinc (lv' := [(2, .int (nI (i + 1))), (1, .int (nI (k + 1))), (0, .ref hx)]) (k := 2) cx dX4_executeCommands_39 rfl (gn_inc1 i) (by decide) rfl ?_
            refine g_goto (tgt := 4) cx dX4_executeCommands_42 (by decide) ?_
            refine g_lv [2, 1, 0] rfl ?_
            exact ih_L4 (i + 1) (k + 1) ((ex1 T tn i (g, q, u)).2.1) ((ex1 T tn i (g, q, u)).2.2.1) ((ex1 T tn i (g, q, u)).2.2.2) (by first | omega | exact hT _ | exact Nat.lt_trans (hT _) (by decide)) (by omega) ((exA_t (by omega) z2 z3).symm.trans hz)
          ·
            have z3 := gB_eq0 z3
            refine g_iload_n cx dX4_executeCommands_34 rfl ?_
            exact g_iretE cx dX4_executeCommands_35 (by rw [← hz, exA_f (by omega) (by assumption) (by assumption)]) (by rw [← hz, exA_f (by omega) (by assumption) (by assumption)])
  refine g_lv [2, 1, 0] rfl ?_
  exact L4 (tn - 0 + 1) 0 0 f r w (by first | omega | exact hT _ | exact Nat.lt_trans (hT _) (by decide)) (by omega) rfl
set_option maxRecDepth 100000 in
set_option maxHeartbeats 4000000 in
theorem c_X4_runText_a (l : Launch) (E : gEnv) (hl0 : l.stackTraces = false) (hx : Nat) (hp : Nat) (hg : Nat) (hh : Nat) (hsl : Nat) (hsv : Nat) (htx : Nat) (hc : Nat) (T : Nat → Nat) (tn : Nat) (htn : tn ≤ 80) (hT : ∀ j, T j < 128) (hz : ¬ ferr T tn 0 0 = -1) : gZ l yX4_runText wsX4_runText ({ frames := 7, cells := 1, slots := 6, locals := 120 } : Room) E [.ref hx] [(hx, .inr (4, [.ref hp, .ref hg, .ref hh, .ref hsl, .ref hsv, .ref htx])), (htx, .inr (0, [.ref hc, .int (nI tn)])), (hc, .inl (E.2.1 1, 80, .inl (fun j => nI (T j))))] "java/lang/IllegalStateException" := by
  refine gZ.ofG (cc := cX4_runText) (nL := 2) (ret := (some .int)) (own := RX4) [(0, .ref hx)] (by decide) rfl rfl (Nat.le_of_ble_eq_true rfl) rfl ?_
  intro pX eX sX mX bX tX cX A cx hex
  have hiX0 : ∀ w ∈ u_ws RX0 TX0 2, w ∈ wsX4_runText := by decide +kernel
  have hiX4 : ∀ w ∈ u_ws RX4 TX4 6, w ∈ wsX4_runText := by decide +kernel
  refine g_aload_n cx dX4_runText_0 rfl ?_
  refine g_get (C := RX4) (T := TX4) (N := 6) (ci := 4) cx hiX4 0 5 (by decide) rfl (by decide +kernel) rfl rfl dX4_runText_1 ?_
  refine g_callV (ws' := [(hx, .inr (4, [.ref hp, .ref hg, .ref hh, .ref hsl, .ref hsv, .ref htx])), (htx, .inr (0, [.ref hc, .int (nI tn)])), (hc, .inl (E.2.1 1, 80, .inl (fun j => nI (T j))))]) (As := []) (rest := []) (n := 0) (T := TX0) (N := 2) (ci := 0) cx (c_X0_firstError l E htx hc T tn (by first | omega | exact hT _ | exact Nat.lt_trans (hT _) (by decide)) hT) gX4_runText_X0_firstError rfl (by decide +kernel) rfl rfl ⟨Nat.le_of_ble_eq_true rfl, Nat.le_of_ble_eq_true rfl⟩ ⟨Nat.zero_le _, Nat.zero_le _⟩ [1, 2] 1 rfl rfl (by decide) rfl rfl rfl rfl (Nat.le_of_ble_eq_true rfl) dX4_runText_4 ?_
  refine g_iconst cx dX4_runText_7 kc_im1 ?_
  refine g_icmp_ne (tgt := 15) cx dX4_runText_8 (by decide) (fun z1 => ?_) (fun z1 => absurd z1 hz)
  refine g_iconst cx dX4_runText_15 kc_i0 ?_
  exact g_callSZ (As := [.int (nI 0)]) (rest := []) (n := 1) cx hex (c_X4_requireState_f l E hl0 false rfl) gX4_runText_X4_requireState rfl (by decide +kernel) rfl rfl ⟨Nat.le_of_ble_eq_true rfl, Nat.le_of_ble_eq_true rfl⟩ ⟨Nat.le_of_ble_eq_true rfl, Nat.le_of_ble_eq_true rfl⟩ [] (by decide) rfl rfl rfl (Nat.le_of_ble_eq_true rfl) dX4_runText_16
set_option maxRecDepth 100000 in
set_option maxHeartbeats 4000000 in
theorem c_X4_runText_c (l : Launch) (E : gEnv) (hx : Nat) (hg : Nat) (hsl : Nat) (hsv : Nat) (htx : Nat) (hh : Nat) (st : Nat) (q : Nat → Nat) (a : Nat → Nat) (F : Nat → Nat → Int32) (Rr : Nat → Int32) (Tt : Nat → Int32) (Ww : Nat → Bool) (o : Nat) (n : Nat) (hp : Nat) (ap : Nat) (f : Nat → Int32) (r : Int32) (t : Int32) (w : Bool) (hc : Nat) (T : Nat → Nat) (tn : Nat) (htn : tn ≤ 80) (hT : ∀ j, T j < 128) (hz : ferr T tn 0 0 = -1) (hn6 : n ≤ 6) : gM l yX4_runText wsX4_runText ({ frames := 5, cells := 0, slots := 0, locals := 126 } : Room) E [.ref hx] [(hx, .inr (4, [.ref hp, .ref hg, .ref hh, .ref hsl, .ref hsv, .ref htx])), (htx, .inr (0, [.ref hc, .int (nI tn)])), (hc, .inl (E.2.1 1, 80, .inl (fun j => nI (T j)))), (hh, .inr (1, [.ref st, .int (nI n)])), (st, .inl (E.2.1 3, 6, .inr (.inr (.inr (.inr (fun k => some (q ((k + o) % 6)))))))), (q 0, .inr (3, [.ref (a 0), .int (Rr 0), .int (Tt 0), .int (gB (Ww 0))])), (a 0, .inl (E.2.1 0, 64, .inl (F 0))), (q 1, .inr (3, [.ref (a 1), .int (Rr 1), .int (Tt 1), .int (gB (Ww 1))])), (a 1, .inl (E.2.1 0, 64, .inl (F 1))), (q 2, .inr (3, [.ref (a 2), .int (Rr 2), .int (Tt 2), .int (gB (Ww 2))])), (a 2, .inl (E.2.1 0, 64, .inl (F 2))), (q 3, .inr (3, [.ref (a 3), .int (Rr 3), .int (Tt 3), .int (gB (Ww 3))])), (a 3, .inl (E.2.1 0, 64, .inl (F 3))), (q 4, .inr (3, [.ref (a 4), .int (Rr 4), .int (Tt 4), .int (gB (Ww 4))])), (a 4, .inl (E.2.1 0, 64, .inl (F 4))), (q 5, .inr (3, [.ref (a 5), .int (Rr 5), .int (Tt 5), .int (gB (Ww 5))])), (a 5, .inl (E.2.1 0, 64, .inl (F 5))), (hp, .inr (3, [.ref ap, .int r, .int t, .int (gB w)])), (ap, .inl (E.2.1 0, 64, .inl f))] [(hx, .inr (4, [.ref hp, .ref hg, .ref hh, .ref hsl, .ref hsv, .ref htx])), (htx, .inr (0, [.ref hc, .int (nI 0)])), (hc, .inl (E.2.1 1, 80, .inl (fun j => nI (T j)))), (hh, .inr (1, [.ref st, .int (nI (kN n))])), (st, .inl (E.2.1 3, 6, .inr (.inr (.inr (.inr (fun k => some (q ((k + kO n o) % 6)))))))), (q 0, .inr (3, [.ref (a 0), .int (pset Rr ((kN n - 1 + kO n o) % 6) r 0), .int (pset Tt ((kN n - 1 + kO n o) % 6) t 0), .int (gB (pset Ww ((kN n - 1 + kO n o) % 6) w 0))])), (a 0, .inl (E.2.1 0, 64, .inl (pset F ((kN n - 1 + kO n o) % 6) f 0))), (q 1, .inr (3, [.ref (a 1), .int (pset Rr ((kN n - 1 + kO n o) % 6) r 1), .int (pset Tt ((kN n - 1 + kO n o) % 6) t 1), .int (gB (pset Ww ((kN n - 1 + kO n o) % 6) w 1))])), (a 1, .inl (E.2.1 0, 64, .inl (pset F ((kN n - 1 + kO n o) % 6) f 1))), (q 2, .inr (3, [.ref (a 2), .int (pset Rr ((kN n - 1 + kO n o) % 6) r 2), .int (pset Tt ((kN n - 1 + kO n o) % 6) t 2), .int (gB (pset Ww ((kN n - 1 + kO n o) % 6) w 2))])), (a 2, .inl (E.2.1 0, 64, .inl (pset F ((kN n - 1 + kO n o) % 6) f 2))), (q 3, .inr (3, [.ref (a 3), .int (pset Rr ((kN n - 1 + kO n o) % 6) r 3), .int (pset Tt ((kN n - 1 + kO n o) % 6) t 3), .int (gB (pset Ww ((kN n - 1 + kO n o) % 6) w 3))])), (a 3, .inl (E.2.1 0, 64, .inl (pset F ((kN n - 1 + kO n o) % 6) f 3))), (q 4, .inr (3, [.ref (a 4), .int (pset Rr ((kN n - 1 + kO n o) % 6) r 4), .int (pset Tt ((kN n - 1 + kO n o) % 6) t 4), .int (gB (pset Ww ((kN n - 1 + kO n o) % 6) w 4))])), (a 4, .inl (E.2.1 0, 64, .inl (pset F ((kN n - 1 + kO n o) % 6) f 4))), (q 5, .inr (3, [.ref (a 5), .int (pset Rr ((kN n - 1 + kO n o) % 6) r 5), .int (pset Tt ((kN n - 1 + kO n o) % 6) t 5), .int (gB (pset Ww ((kN n - 1 + kO n o) % 6) w 5))])), (a 5, .inl (E.2.1 0, 64, .inl (pset F ((kN n - 1 + kO n o) % 6) f 5))), (hp, .inr (3, [.ref ap, .int ((exA T tn tn 0 0 (f, r, w)).2.2.1), .int t, .int (gB ((exA T tn tn 0 0 (f, r, w)).2.2.2))])), (ap, .inl (E.2.1 0, 64, .inl ((exA T tn tn 0 0 (f, r, w)).2.1)))] (some (.int (nI ((exA T tn tn 0 0 (f, r, w)).1)))) := by
  refine gM.ofG (cc := cX4_runText) (nL := 2) (ret := (some .int)) (own := RX4) [(0, .ref hx)] (by decide) rfl rfl (Nat.le_of_ble_eq_true rfl) rfl rfl ?_
  intro pX eX sX mX bX tX cX A cx
  have hiX0 : ∀ w ∈ u_ws RX0 TX0 2, w ∈ wsX4_runText := by decide +kernel
  have hiX4 : ∀ w ∈ u_ws RX4 TX4 6, w ∈ wsX4_runText := by decide +kernel
  refine g_aload_n cx dX4_runText_0 rfl ?_
  refine g_get (C := RX4) (T := TX4) (N := 6) (ci := 4) cx hiX4 0 5 (by decide) rfl (by decide +kernel) rfl rfl dX4_runText_1 ?_
  refine g_callV (ws' := [(hx, .inr (4, [.ref hp, .ref hg, .ref hh, .ref hsl, .ref hsv, .ref htx])), (htx, .inr (0, [.ref hc, .int (nI tn)])), (hc, .inl (E.2.1 1, 80, .inl (fun j => nI (T j)))), (hh, .inr (1, [.ref st, .int (nI n)])), (st, .inl (E.2.1 3, 6, .inr (.inr (.inr (.inr (fun k => some (q ((k + o) % 6)))))))), (q 0, .inr (3, [.ref (a 0), .int (Rr 0), .int (Tt 0), .int (gB (Ww 0))])), (a 0, .inl (E.2.1 0, 64, .inl (F 0))), (q 1, .inr (3, [.ref (a 1), .int (Rr 1), .int (Tt 1), .int (gB (Ww 1))])), (a 1, .inl (E.2.1 0, 64, .inl (F 1))), (q 2, .inr (3, [.ref (a 2), .int (Rr 2), .int (Tt 2), .int (gB (Ww 2))])), (a 2, .inl (E.2.1 0, 64, .inl (F 2))), (q 3, .inr (3, [.ref (a 3), .int (Rr 3), .int (Tt 3), .int (gB (Ww 3))])), (a 3, .inl (E.2.1 0, 64, .inl (F 3))), (q 4, .inr (3, [.ref (a 4), .int (Rr 4), .int (Tt 4), .int (gB (Ww 4))])), (a 4, .inl (E.2.1 0, 64, .inl (F 4))), (q 5, .inr (3, [.ref (a 5), .int (Rr 5), .int (Tt 5), .int (gB (Ww 5))])), (a 5, .inl (E.2.1 0, 64, .inl (F 5))), (hp, .inr (3, [.ref ap, .int r, .int t, .int (gB w)])), (ap, .inl (E.2.1 0, 64, .inl f))]) (As := []) (rest := []) (n := 0) (T := TX0) (N := 2) (ci := 0) cx (c_X0_firstError l E htx hc T tn (by first | omega | exact hT _ | exact Nat.lt_trans (hT _) (by decide)) hT) gX4_runText_X0_firstError rfl (by decide +kernel) rfl rfl ⟨Nat.le_of_ble_eq_true rfl, Nat.le_of_ble_eq_true rfl⟩ ⟨Nat.zero_le _, Nat.zero_le _⟩ [1, 2] 1 rfl rfl (by decide) rfl rfl rfl rfl (Nat.le_of_ble_eq_true rfl) dX4_runText_4 ?_
  refine g_iconst cx dX4_runText_7 kc_im1 ?_
  refine g_icmp_ne (tgt := 15) cx dX4_runText_8 (by decide) (fun z1 => absurd hz z1) (fun z1 => ?_)
  refine g_iconst cx dX4_runText_11 kc_i1 ?_
  refine g_goto (tgt := 16) cx dX4_runText_12 (by decide) ?_
  refine g_callS (ws' := [(hx, .inr (4, [.ref hp, .ref hg, .ref hh, .ref hsl, .ref hsv, .ref htx])), (htx, .inr (0, [.ref hc, .int (nI tn)])), (hc, .inl (E.2.1 1, 80, .inl (fun j => nI (T j)))), (hh, .inr (1, [.ref st, .int (nI n)])), (st, .inl (E.2.1 3, 6, .inr (.inr (.inr (.inr (fun k => some (q ((k + o) % 6)))))))), (q 0, .inr (3, [.ref (a 0), .int (Rr 0), .int (Tt 0), .int (gB (Ww 0))])), (a 0, .inl (E.2.1 0, 64, .inl (F 0))), (q 1, .inr (3, [.ref (a 1), .int (Rr 1), .int (Tt 1), .int (gB (Ww 1))])), (a 1, .inl (E.2.1 0, 64, .inl (F 1))), (q 2, .inr (3, [.ref (a 2), .int (Rr 2), .int (Tt 2), .int (gB (Ww 2))])), (a 2, .inl (E.2.1 0, 64, .inl (F 2))), (q 3, .inr (3, [.ref (a 3), .int (Rr 3), .int (Tt 3), .int (gB (Ww 3))])), (a 3, .inl (E.2.1 0, 64, .inl (F 3))), (q 4, .inr (3, [.ref (a 4), .int (Rr 4), .int (Tt 4), .int (gB (Ww 4))])), (a 4, .inl (E.2.1 0, 64, .inl (F 4))), (q 5, .inr (3, [.ref (a 5), .int (Rr 5), .int (Tt 5), .int (gB (Ww 5))])), (a 5, .inl (E.2.1 0, 64, .inl (F 5))), (hp, .inr (3, [.ref ap, .int r, .int t, .int (gB w)])), (ap, .inl (E.2.1 0, 64, .inl f))]) (As := [.int (nI 1)]) (rest := []) (n := 1) cx (c_X4_requireState_t l E true rfl) gX4_runText_X4_requireState rfl (by decide +kernel) rfl rfl ⟨Nat.le_of_ble_eq_true rfl, Nat.le_of_ble_eq_true rfl⟩ ⟨Nat.zero_le _, Nat.zero_le _⟩ [] (by decide) rfl rfl rfl rfl (Nat.le_of_ble_eq_true rfl) dX4_runText_16 ?_
  refine g_aload_n cx dX4_runText_19 rfl ?_
  refine g_get (C := RX4) (T := TX4) (N := 6) (ci := 4) cx hiX4 0 2 (by decide) rfl (by decide +kernel) rfl rfl dX4_runText_20 ?_
  refine g_aload_n cx dX4_runText_23 rfl ?_
  refine g_get (C := RX4) (T := TX4) (N := 6) (ci := 4) cx hiX4 0 0 (by decide) rfl (by decide +kernel) rfl rfl dX4_runText_24 ?_
  refine g_callV (ws' := [(hx, .inr (4, [.ref hp, .ref hg, .ref hh, .ref hsl, .ref hsv, .ref htx])), (htx, .inr (0, [.ref hc, .int (nI tn)])), (hc, .inl (E.2.1 1, 80, .inl (fun j => nI (T j)))), (hh, .inr (1, [.ref st, .int (nI (kN n))])), (st, .inl (E.2.1 3, 6, .inr (.inr (.inr (.inr (fun k => some (q ((k + kO n o) % 6)))))))), (q 0, .inr (3, [.ref (a 0), .int (pset Rr ((kN n - 1 + kO n o) % 6) r 0), .int (pset Tt ((kN n - 1 + kO n o) % 6) t 0), .int (gB (pset Ww ((kN n - 1 + kO n o) % 6) w 0))])), (a 0, .inl (E.2.1 0, 64, .inl (pset F ((kN n - 1 + kO n o) % 6) f 0))), (q 1, .inr (3, [.ref (a 1), .int (pset Rr ((kN n - 1 + kO n o) % 6) r 1), .int (pset Tt ((kN n - 1 + kO n o) % 6) t 1), .int (gB (pset Ww ((kN n - 1 + kO n o) % 6) w 1))])), (a 1, .inl (E.2.1 0, 64, .inl (pset F ((kN n - 1 + kO n o) % 6) f 1))), (q 2, .inr (3, [.ref (a 2), .int (pset Rr ((kN n - 1 + kO n o) % 6) r 2), .int (pset Tt ((kN n - 1 + kO n o) % 6) t 2), .int (gB (pset Ww ((kN n - 1 + kO n o) % 6) w 2))])), (a 2, .inl (E.2.1 0, 64, .inl (pset F ((kN n - 1 + kO n o) % 6) f 2))), (q 3, .inr (3, [.ref (a 3), .int (pset Rr ((kN n - 1 + kO n o) % 6) r 3), .int (pset Tt ((kN n - 1 + kO n o) % 6) t 3), .int (gB (pset Ww ((kN n - 1 + kO n o) % 6) w 3))])), (a 3, .inl (E.2.1 0, 64, .inl (pset F ((kN n - 1 + kO n o) % 6) f 3))), (q 4, .inr (3, [.ref (a 4), .int (pset Rr ((kN n - 1 + kO n o) % 6) r 4), .int (pset Tt ((kN n - 1 + kO n o) % 6) t 4), .int (gB (pset Ww ((kN n - 1 + kO n o) % 6) w 4))])), (a 4, .inl (E.2.1 0, 64, .inl (pset F ((kN n - 1 + kO n o) % 6) f 4))), (q 5, .inr (3, [.ref (a 5), .int (pset Rr ((kN n - 1 + kO n o) % 6) r 5), .int (pset Tt ((kN n - 1 + kO n o) % 6) t 5), .int (gB (pset Ww ((kN n - 1 + kO n o) % 6) w 5))])), (a 5, .inl (E.2.1 0, 64, .inl (pset F ((kN n - 1 + kO n o) % 6) f 5))), (hp, .inr (3, [.ref ap, .int r, .int t, .int (gB w)])), (ap, .inl (E.2.1 0, 64, .inl f))]) (As := [.ref hp]) (rest := []) (n := 1) (T := TX1) (N := 2) (ci := 1) cx (c_X1_keep l E hh st q a F Rr Tt Ww o n hp ap f r t w (by first | omega | exact hT _ | exact Nat.lt_trans (hT _) (by decide))) gX4_runText_X1_keep rfl (by decide +kernel) rfl rfl ⟨Nat.le_of_ble_eq_true rfl, Nat.le_of_ble_eq_true rfl⟩ ⟨Nat.zero_le _, Nat.zero_le _⟩ [3, 4, 5, 6, 7, 8, 9, 10, 11, 12, 13, 14, 15, 16, 17, 18] 3 rfl rfl (by decide) rfl rfl rfl rfl (Nat.le_of_ble_eq_true rfl) dX4_runText_27 ?_
  refine g_aload_n cx dX4_runText_30 rfl ?_
  refine g_callV (ws' := [(hx, .inr (4, [.ref hp, .ref hg, .ref hh, .ref hsl, .ref hsv, .ref htx])), (htx, .inr (0, [.ref hc, .int (nI tn)])), (hc, .inl (E.2.1 1, 80, .inl (fun j => nI (T j)))), (hh, .inr (1, [.ref st, .int (nI (kN n))])), (st, .inl (E.2.1 3, 6, .inr (.inr (.inr (.inr (fun k => some (q ((k + kO n o) % 6)))))))), (q 0, .inr (3, [.ref (a 0), .int (pset Rr ((kN n - 1 + kO n o) % 6) r 0), .int (pset Tt ((kN n - 1 + kO n o) % 6) t 0), .int (gB (pset Ww ((kN n - 1 + kO n o) % 6) w 0))])), (a 0, .inl (E.2.1 0, 64, .inl (pset F ((kN n - 1 + kO n o) % 6) f 0))), (q 1, .inr (3, [.ref (a 1), .int (pset Rr ((kN n - 1 + kO n o) % 6) r 1), .int (pset Tt ((kN n - 1 + kO n o) % 6) t 1), .int (gB (pset Ww ((kN n - 1 + kO n o) % 6) w 1))])), (a 1, .inl (E.2.1 0, 64, .inl (pset F ((kN n - 1 + kO n o) % 6) f 1))), (q 2, .inr (3, [.ref (a 2), .int (pset Rr ((kN n - 1 + kO n o) % 6) r 2), .int (pset Tt ((kN n - 1 + kO n o) % 6) t 2), .int (gB (pset Ww ((kN n - 1 + kO n o) % 6) w 2))])), (a 2, .inl (E.2.1 0, 64, .inl (pset F ((kN n - 1 + kO n o) % 6) f 2))), (q 3, .inr (3, [.ref (a 3), .int (pset Rr ((kN n - 1 + kO n o) % 6) r 3), .int (pset Tt ((kN n - 1 + kO n o) % 6) t 3), .int (gB (pset Ww ((kN n - 1 + kO n o) % 6) w 3))])), (a 3, .inl (E.2.1 0, 64, .inl (pset F ((kN n - 1 + kO n o) % 6) f 3))), (q 4, .inr (3, [.ref (a 4), .int (pset Rr ((kN n - 1 + kO n o) % 6) r 4), .int (pset Tt ((kN n - 1 + kO n o) % 6) t 4), .int (gB (pset Ww ((kN n - 1 + kO n o) % 6) w 4))])), (a 4, .inl (E.2.1 0, 64, .inl (pset F ((kN n - 1 + kO n o) % 6) f 4))), (q 5, .inr (3, [.ref (a 5), .int (pset Rr ((kN n - 1 + kO n o) % 6) r 5), .int (pset Tt ((kN n - 1 + kO n o) % 6) t 5), .int (gB (pset Ww ((kN n - 1 + kO n o) % 6) w 5))])), (a 5, .inl (E.2.1 0, 64, .inl (pset F ((kN n - 1 + kO n o) % 6) f 5))), (hp, .inr (3, [.ref ap, .int ((exA T tn tn 0 0 (f, r, w)).2.2.1), .int t, .int (gB ((exA T tn tn 0 0 (f, r, w)).2.2.2))])), (ap, .inl (E.2.1 0, 64, .inl ((exA T tn tn 0 0 (f, r, w)).2.1)))]) (As := []) (rest := []) (n := 0) (T := TX4) (N := 6) (ci := 4) cx (c_X4_executeCommands l E hx hp hg hh hsl hsv htx ap f r t w hc T tn (by first | omega | exact hT _ | exact Nat.lt_trans (hT _) (by decide)) hT) gX4_runText_X4_executeCommands rfl (by decide +kernel) rfl rfl ⟨Nat.le_of_ble_eq_true rfl, Nat.le_of_ble_eq_true rfl⟩ ⟨Nat.zero_le _, Nat.zero_le _⟩ [0, 1, 2, 17, 18] 0 rfl rfl (by decide) rfl rfl rfl rfl (Nat.le_of_ble_eq_true rfl) dX4_runText_31 ?_
  refine g_istore_n (lv' := [(1, .int (nI ((exA T tn tn 0 0 (f, r, w)).1))), (0, .ref hx)]) cx dX4_runText_34 rfl (by decide) rfl ?_
  refine g_aload_n cx dX4_runText_35 rfl ?_
  refine g_get (C := RX4) (T := TX4) (N := 6) (ci := 4) cx hiX4 0 5 (by decide) rfl (by decide +kernel) rfl rfl dX4_runText_36 ?_
  refine g_iconst cx dX4_runText_39 kc_i0 ?_
  refine g_put (ws' := [(hx, .inr (4, [.ref hp, .ref hg, .ref hh, .ref hsl, .ref hsv, .ref htx])), (htx, .inr (0, [.ref hc, .int (nI 0)])), (hc, .inl (E.2.1 1, 80, .inl (fun j => nI (T j)))), (hh, .inr (1, [.ref st, .int (nI (kN n))])), (st, .inl (E.2.1 3, 6, .inr (.inr (.inr (.inr (fun k => some (q ((k + kO n o) % 6)))))))), (q 0, .inr (3, [.ref (a 0), .int (pset Rr ((kN n - 1 + kO n o) % 6) r 0), .int (pset Tt ((kN n - 1 + kO n o) % 6) t 0), .int (gB (pset Ww ((kN n - 1 + kO n o) % 6) w 0))])), (a 0, .inl (E.2.1 0, 64, .inl (pset F ((kN n - 1 + kO n o) % 6) f 0))), (q 1, .inr (3, [.ref (a 1), .int (pset Rr ((kN n - 1 + kO n o) % 6) r 1), .int (pset Tt ((kN n - 1 + kO n o) % 6) t 1), .int (gB (pset Ww ((kN n - 1 + kO n o) % 6) w 1))])), (a 1, .inl (E.2.1 0, 64, .inl (pset F ((kN n - 1 + kO n o) % 6) f 1))), (q 2, .inr (3, [.ref (a 2), .int (pset Rr ((kN n - 1 + kO n o) % 6) r 2), .int (pset Tt ((kN n - 1 + kO n o) % 6) t 2), .int (gB (pset Ww ((kN n - 1 + kO n o) % 6) w 2))])), (a 2, .inl (E.2.1 0, 64, .inl (pset F ((kN n - 1 + kO n o) % 6) f 2))), (q 3, .inr (3, [.ref (a 3), .int (pset Rr ((kN n - 1 + kO n o) % 6) r 3), .int (pset Tt ((kN n - 1 + kO n o) % 6) t 3), .int (gB (pset Ww ((kN n - 1 + kO n o) % 6) w 3))])), (a 3, .inl (E.2.1 0, 64, .inl (pset F ((kN n - 1 + kO n o) % 6) f 3))), (q 4, .inr (3, [.ref (a 4), .int (pset Rr ((kN n - 1 + kO n o) % 6) r 4), .int (pset Tt ((kN n - 1 + kO n o) % 6) t 4), .int (gB (pset Ww ((kN n - 1 + kO n o) % 6) w 4))])), (a 4, .inl (E.2.1 0, 64, .inl (pset F ((kN n - 1 + kO n o) % 6) f 4))), (q 5, .inr (3, [.ref (a 5), .int (pset Rr ((kN n - 1 + kO n o) % 6) r 5), .int (pset Tt ((kN n - 1 + kO n o) % 6) t 5), .int (gB (pset Ww ((kN n - 1 + kO n o) % 6) w 5))])), (a 5, .inl (E.2.1 0, 64, .inl (pset F ((kN n - 1 + kO n o) % 6) f 5))), (hp, .inr (3, [.ref ap, .int ((exA T tn tn 0 0 (f, r, w)).2.2.1), .int t, .int (gB ((exA T tn tn 0 0 (f, r, w)).2.2.2))])), (ap, .inl (E.2.1 0, 64, .inl ((exA T tn tn 0 0 (f, r, w)).2.1)))]) (C := RX0) (T := TX0) (N := 2) (ci := 0) cx hiX0 tyX0 tyX0_ok nmX0 1 1 (by decide) rfl (by decide +kernel) rfl rfl rfl rfl rfl (Nat.le_of_ble_eq_true rfl) rfl dX4_runText_40 ?_
  refine g_iload_n cx dX4_runText_43 rfl ?_
  exact g_iretE cx dX4_runText_44 (rfl) (rfl)
