set_option maxRecDepth 100000 in
set_option maxHeartbeats 4000000 in
theorem c_J13_bitCount_95d88 (l : Launch) (E : gEnv) (x : Int64)  : gM l yJ13_bitCount_95d88 wsJ13_bitCount_95d88 ({ frames := 0, cells := 0, slots := 0, locals := 0 } : Room) E [.long x] [] [] (some (.int (bcI x))) := by
  refine gM.ofG (cc := cJ13_bitCount_95d88) (nL := 2) (ret := (some .int)) (own := RJ13) [(0, .long x)] (by decide) rfl rfl (Nat.le_of_ble_eq_true rfl) rfl rfl ?_
  intro pX eX sX mX bX tX cX A cx
  refine g_lload_n cx dJ13_bitCount_95d88_0 rfl ?_
  refine g_lload_n cx dJ13_bitCount_95d88_1 rfl ?_
  refine g_iconst cx dJ13_bitCount_95d88_2 kc_i1 ?_
  refine g_lushr cx dJ13_bitCount_95d88_3 rfl ?_
  refine g_ldc2 (v := 6148914691236517205) cx dJ13_bitCount_95d88_4 (by decide +kernel) ?_
  refine g_land cx dJ13_bitCount_95d88_7 ?_
  refine g_lsub cx dJ13_bitCount_95d88_8 ?_
  refine g_lstore_n (lv' := [(0, .long (bc1 x))]) cx dJ13_bitCount_95d88_9 rfl (by decide) rfl ?_
  refine g_lload_n cx dJ13_bitCount_95d88_10 rfl ?_
  refine g_ldc2 (v := 3689348814741910323) cx dJ13_bitCount_95d88_11 (by decide +kernel) ?_
  refine g_land cx dJ13_bitCount_95d88_14 ?_
  refine g_lload_n cx dJ13_bitCount_95d88_15 rfl ?_
  refine g_iconst cx dJ13_bitCount_95d88_16 kc_i2 ?_
  refine g_lushr cx dJ13_bitCount_95d88_17 rfl ?_
  refine g_ldc2 (v := 3689348814741910323) cx dJ13_bitCount_95d88_18 (by decide +kernel) ?_
  refine g_land cx dJ13_bitCount_95d88_21 ?_
  refine g_ladd cx dJ13_bitCount_95d88_22 ?_
  refine g_lstore_n (lv' := [(0, .long (bc2 (bc1 x)))]) cx dJ13_bitCount_95d88_23 rfl (by decide) rfl ?_
  refine g_lload_n cx dJ13_bitCount_95d88_24 rfl ?_
  refine g_lload_n cx dJ13_bitCount_95d88_25 rfl ?_
  refine g_iconst cx dJ13_bitCount_95d88_26 kc_i4 ?_
  refine g_lushr cx dJ13_bitCount_95d88_27 rfl ?_
  refine g_ladd cx dJ13_bitCount_95d88_28 ?_
  refine g_ldc2 (v := 1085102592571150095) cx dJ13_bitCount_95d88_29 (by decide +kernel) ?_
  refine g_land cx dJ13_bitCount_95d88_32 ?_
  refine g_lstore_n (lv' := [(0, .long (bc3 (bc2 (bc1 x))))]) cx dJ13_bitCount_95d88_33 rfl (by decide) rfl ?_
  refine g_lload_n cx dJ13_bitCount_95d88_34 rfl ?_
  refine g_lload_n cx dJ13_bitCount_95d88_35 rfl ?_
  refine g_bipush cx dJ13_bitCount_95d88_36 kc_b8 ?_
  refine g_lushr cx dJ13_bitCount_95d88_38 rfl ?_
  refine g_ladd cx dJ13_bitCount_95d88_39 ?_
  refine g_lstore_n (lv' := [(0, .long (bc4 (bc3 (bc2 (bc1 x))) 8))]) cx dJ13_bitCount_95d88_40 rfl (by decide) rfl ?_
  refine g_lload_n cx dJ13_bitCount_95d88_41 rfl ?_
  refine g_lload_n cx dJ13_bitCount_95d88_42 rfl ?_
  refine g_bipush cx dJ13_bitCount_95d88_43 kc_b16 ?_
  refine g_lushr cx dJ13_bitCount_95d88_45 rfl ?_
  refine g_ladd cx dJ13_bitCount_95d88_46 ?_
  refine g_lstore_n (lv' := [(0, .long (bc4 (bc4 (bc3 (bc2 (bc1 x))) 8) 16))]) cx dJ13_bitCount_95d88_47 rfl (by decide) rfl ?_
  refine g_lload_n cx dJ13_bitCount_95d88_48 rfl ?_
  refine g_lload_n cx dJ13_bitCount_95d88_49 rfl ?_
  refine g_bipush cx dJ13_bitCount_95d88_50 kc_b32 ?_
  refine g_lushr cx dJ13_bitCount_95d88_52 rfl ?_
  refine g_ladd cx dJ13_bitCount_95d88_53 ?_
  refine g_lstore_n (lv' := [(0, .long (bc4 (bc4 (bc4 (bc3 (bc2 (bc1 x))) 8) 16) 32))]) cx dJ13_bitCount_95d88_54 rfl (by decide) rfl ?_
  refine g_lload_n cx dJ13_bitCount_95d88_55 rfl ?_
  refine g_l2i cx dJ13_bitCount_95d88_56 rfl ?_
  refine g_bipush cx dJ13_bitCount_95d88_57 kc_b127 ?_
  refine g_iand cx dJ13_bitCount_95d88_59 ?_
  exact g_iretE cx dJ13_bitCount_95d88_60 (rfl) (rfl)
set_option maxRecDepth 100000 in
set_option maxHeartbeats 4000000 in
theorem c_X4_flakeCount (l : Launch) (E : gEnv) (hx : Nat) (hp : Nat) (hg : Nat) (hh : Nat) (hsl : Nat) (hsv : Nat) (htx : Nat) (gv : Nat) (ge : Nat) (fv : Nat → Int32) (fe : Nat → Int32) (mk : Int64) (lo : Int32) (ap : Nat) (f : Nat → Int32) (rn : Nat) (t : Int32) (w : Bool) (hr : rn < 4) : gM l yX4_flakeCount wsX4_flakeCount ({ frames := 5, cells := 0, slots := 0, locals := 116 } : Room) E [.ref hx] [(hx, .inr (4, [.ref hp, .ref hg, .ref hh, .ref hsl, .ref hsv, .ref htx])), (hg, .inr (2, [.ref gv, .ref ge, .long mk, .int lo])), (gv, .inl (E.2.1 0, 64, .inl fv)), (ge, .inl (E.2.1 0, 64, .inl fe)), (hp, .inr (3, [.ref ap, .int (nI rn), .int t, .int (gB w)])), (ap, .inl (E.2.1 0, 64, .inl f))] [(hx, .inr (4, [.ref hp, .ref hg, .ref hh, .ref hsl, .ref hsv, .ref htx])), (hg, .inr (2, [.ref gv, .ref ge, .long (pM w rn t f), .int (pG w rn t f)])), (gv, .inl (E.2.1 0, 64, .inl (pV w rn t f))), (ge, .inl (E.2.1 0, 64, .inl (pE w rn t f))), (hp, .inr (3, [.ref ap, .int (nI rn), .int t, .int (gB w)])), (ap, .inl (E.2.1 0, 64, .inl f))] (some (.int (bcI (pM w rn t f)))) := by
  refine gM.ofG (cc := cX4_flakeCount) (nL := 1) (ret := (some .int)) (own := RX4) [(0, .ref hx)] (by decide) rfl rfl (Nat.le_of_ble_eq_true rfl) rfl rfl ?_
  intro pX eX sX mX bX tX cX A cx
  have hiX2 : ∀ w ∈ u_ws RX2 TX2 4, w ∈ wsX4_flakeCount := by decide +kernel
  have hiX4 : ∀ w ∈ u_ws RX4 TX4 6, w ∈ wsX4_flakeCount := by decide +kernel
  refine g_aload_n cx dX4_flakeCount_0 rfl ?_
  refine g_callV (ws' := [(hx, .inr (4, [.ref hp, .ref hg, .ref hh, .ref hsl, .ref hsv, .ref htx])), (hg, .inr (2, [.ref gv, .ref ge, .long (pM w rn t f), .int (pG w rn t f)])), (gv, .inl (E.2.1 0, 64, .inl (pV w rn t f))), (ge, .inl (E.2.1 0, 64, .inl (pE w rn t f))), (hp, .inr (3, [.ref ap, .int (nI rn), .int t, .int (gB w)])), (ap, .inl (E.2.1 0, 64, .inl f))]) (As := []) (rest := []) (n := 0) (T := TX4) (N := 6) (ci := 4) cx (c_X4_paint l E hx hp hg hh hsl hsv htx gv ge fv fe mk lo ap f rn t w (by omega)) gX4_flakeCount_X4_paint rfl (by decide +kernel) rfl rfl ⟨Nat.le_of_ble_eq_true rfl, Nat.le_of_ble_eq_true rfl⟩ ⟨Nat.zero_le _, Nat.zero_le _⟩ [0, 1, 2, 3, 4, 5] 0 rfl rfl (by decide) rfl rfl rfl rfl (Nat.le_of_ble_eq_true rfl) dX4_flakeCount_1 ?_
  refine g_aload_n cx dX4_flakeCount_4 rfl ?_
  refine g_get (C := RX4) (T := TX4) (N := 6) (ci := 4) cx hiX4 0 1 (by decide) rfl (by decide +kernel) rfl rfl dX4_flakeCount_5 ?_
  refine g_get (C := RX2) (T := TX2) (N := 4) (ci := 2) cx hiX2 1 2 (by decide) rfl (by decide +kernel) rfl rfl dX4_flakeCount_8 ?_
  refine g_callS (ws' := [(hx, .inr (4, [.ref hp, .ref hg, .ref hh, .ref hsl, .ref hsv, .ref htx])), (hg, .inr (2, [.ref gv, .ref ge, .long (pM w rn t f), .int (pG w rn t f)])), (gv, .inl (E.2.1 0, 64, .inl (pV w rn t f))), (ge, .inl (E.2.1 0, 64, .inl (pE w rn t f))), (hp, .inr (3, [.ref ap, .int (nI rn), .int t, .int (gB w)])), (ap, .inl (E.2.1 0, 64, .inl f))]) (As := [.long (pM w rn t f)]) (rest := []) (n := 1) cx (c_J13_bitCount_95d88 l E (pM w rn t f) ) gX4_flakeCount_J13_bitCount_95d88 rfl (by decide +kernel) rfl rfl ⟨Nat.le_of_ble_eq_true rfl, Nat.le_of_ble_eq_true rfl⟩ ⟨Nat.zero_le _, Nat.zero_le _⟩ [] (by decide) rfl rfl rfl rfl (Nat.le_of_ble_eq_true rfl) dX4_flakeCount_11 ?_
  exact g_iretE cx dX4_flakeCount_14 (rfl) (rfl)
set_option maxRecDepth 100000 in
set_option maxHeartbeats 4000000 in
theorem c_X4_handedOn_a (l : Launch) (E : gEnv) (hl0 : l.stackTraces = false) (hx : Nat) (v : Int32) (v2 : Int32) (hb : bR v 0 63 = false) : gZ l yX4_handedOn wsX4_handedOn ({ frames := 8, cells := 1, slots := 6, locals := 140 } : Room) E [.ref hx, .int v, .int v2] [] "java/lang/IndexOutOfBoundsException" := by
  refine gZ.ofG (cc := cX4_handedOn) (nL := 6) (ret := (some .int)) (own := RX4) [(0, .ref hx), (1, .int v), (2, .int v2)] (by decide) rfl rfl (Nat.le_of_ble_eq_true rfl) rfl ?_
  intro pX eX sX mX bX tX cX A cx hex
  have hiX2 : ∀ w ∈ u_ws RX2 TX2 4, w ∈ wsX4_handedOn := by decide +kernel
  have hiX3 : ∀ w ∈ u_ws RX3 TX3 4, w ∈ wsX4_handedOn := by decide +kernel
  have hiX4 : ∀ w ∈ u_ws RX4 TX4 6, w ∈ wsX4_handedOn := by decide +kernel
  have hk0 := bR_f.mp hb
  refine g_iload_n cx dX4_handedOn_0 rfl ?_
  exact g_callSZ (As := [.int v]) (rest := []) (n := 1) cx hex (c_X4_requireCell_f l E hl0 v hb) gX4_handedOn_X4_requireCell rfl (by decide +kernel) rfl rfl ⟨Nat.le_of_ble_eq_true rfl, Nat.le_of_ble_eq_true rfl⟩ ⟨Nat.le_of_ble_eq_true rfl, Nat.le_of_ble_eq_true rfl⟩ [] (by decide) rfl rfl rfl (Nat.le_of_ble_eq_true rfl) dX4_handedOn_1
set_option maxRecDepth 100000 in
set_option maxHeartbeats 4000000 in
theorem c_X4_handedOn_b (l : Launch) (E : gEnv) (hl0 : l.stackTraces = false) (hx : Nat) (v : Int32) (v2 : Int32) (hb2 : bR v 0 63 = true) (hb : bR v2 0 63 = false) : gZ l yX4_handedOn wsX4_handedOn ({ frames := 8, cells := 1, slots := 6, locals := 140 } : Room) E [.ref hx, .int v, .int v2] [] "java/lang/IndexOutOfBoundsException" := by
  refine gZ.ofG (cc := cX4_handedOn) (nL := 6) (ret := (some .int)) (own := RX4) [(0, .ref hx), (1, .int v), (2, .int v2)] (by decide) rfl rfl (Nat.le_of_ble_eq_true rfl) rfl ?_
  intro pX eX sX mX bX tX cX A cx hex
  have hiX2 : ∀ w ∈ u_ws RX2 TX2 4, w ∈ wsX4_handedOn := by decide +kernel
  have hiX3 : ∀ w ∈ u_ws RX3 TX3 4, w ∈ wsX4_handedOn := by decide +kernel
  have hiX4 : ∀ w ∈ u_ws RX4 TX4 6, w ∈ wsX4_handedOn := by decide +kernel
  have hk0 := bR_t.mp hb2
  have hk1 := bR_f.mp hb
  refine g_iload_n cx dX4_handedOn_0 rfl ?_
  refine g_callS (ws' := []) (As := [.int v]) (rest := []) (n := 1) cx (c_X4_requireCell_t l E v hb2) gX4_handedOn_X4_requireCell rfl (by decide +kernel) rfl rfl ⟨Nat.le_of_ble_eq_true rfl, Nat.le_of_ble_eq_true rfl⟩ ⟨Nat.zero_le _, Nat.zero_le _⟩ [] (by decide) rfl rfl rfl rfl (Nat.le_of_ble_eq_true rfl) dX4_handedOn_1 ?_
  refine g_iload_n cx dX4_handedOn_4 rfl ?_
  exact g_callSZ (As := [.int v2]) (rest := []) (n := 1) cx hex (c_X4_requireCell_f l E hl0 v2 hb) gX4_handedOn_X4_requireCell rfl (by decide +kernel) rfl rfl ⟨Nat.le_of_ble_eq_true rfl, Nat.le_of_ble_eq_true rfl⟩ ⟨Nat.le_of_ble_eq_true rfl, Nat.le_of_ble_eq_true rfl⟩ [] (by decide) rfl rfl rfl (Nat.le_of_ble_eq_true rfl) dX4_handedOn_5
set_option maxRecDepth 100000 in
set_option maxHeartbeats 4000000 in
theorem c_X4_handedOn_c (l : Launch) (E : gEnv) (hx : Nat) (hp : Nat) (hg : Nat) (hh : Nat) (hsl : Nat) (hsv : Nat) (htx : Nat) (gv : Nat) (ge : Nat) (fv : Nat → Int32) (fe : Nat → Int32) (mk : Int64) (lo : Int32) (ap : Nat) (f : Nat → Int32) (rn : Nat) (t : Int32) (w : Bool) (c : Nat) (o9 : Nat) (hr : rn < 4) (hc : c < 64) (hb2 : bR (nI c) 0 63 = true) (ho9 : o9 < 64) (hb : bR (nI o9) 0 63 = true) : gM l yX4_handedOn wsX4_handedOn ({ frames := 5, cells := 0, slots := 0, locals := 116 } : Room) E [.ref hx, .int (nI c), .int (nI o9)] [(hx, .inr (4, [.ref hp, .ref hg, .ref hh, .ref hsl, .ref hsv, .ref htx])), (hg, .inr (2, [.ref gv, .ref ge, .long mk, .int lo])), (gv, .inl (E.2.1 0, 64, .inl fv)), (ge, .inl (E.2.1 0, 64, .inl fe)), (hp, .inr (3, [.ref ap, .int (nI rn), .int t, .int (gB w)])), (ap, .inl (E.2.1 0, 64, .inl f))] [(hx, .inr (4, [.ref hp, .ref hg, .ref hh, .ref hsl, .ref hsv, .ref htx])), (hg, .inr (2, [.ref gv, .ref ge, .long (pM w rn t f), .int (pG w rn t f)])), (gv, .inl (E.2.1 0, 64, .inl (pV w rn t f))), (ge, .inl (E.2.1 0, 64, .inl (pE w rn t f))), (hp, .inr (3, [.ref ap, .int (nI rn), .int t, .int (gB w)])), (ap, .inl (E.2.1 0, 64, .inl f))] (some (.int (hoC w rn c (nI o9) (pE w rn t f c) (cntR rn) 0))) := by
  refine gM.ofG (cc := cX4_handedOn) (nL := 6) (ret := (some .int)) (own := RX4) [(0, .ref hx), (1, .int (nI c)), (2, .int (nI o9))] (by decide) rfl rfl (Nat.le_of_ble_eq_true rfl) rfl rfl ?_
  intro pX eX sX mX bX tX cX A cx
  have hiX2 : ∀ w ∈ u_ws RX2 TX2 4, w ∈ wsX4_handedOn := by decide +kernel
  have hiX3 : ∀ w ∈ u_ws RX3 TX3 4, w ∈ wsX4_handedOn := by decide +kernel
  have hiX4 : ∀ w ∈ u_ws RX4 TX4 6, w ∈ wsX4_handedOn := by decide +kernel
  have hF := nF_f hr
  have hcR : cntR rn = nF (rn + 1) - nF rn := rfl
  refine g_iload_n cx dX4_handedOn_0 rfl ?_
  refine g_callS (ws' := [(hx, .inr (4, [.ref hp, .ref hg, .ref hh, .ref hsl, .ref hsv, .ref htx])), (hg, .inr (2, [.ref gv, .ref ge, .long mk, .int lo])), (gv, .inl (E.2.1 0, 64, .inl fv)), (ge, .inl (E.2.1 0, 64, .inl fe)), (hp, .inr (3, [.ref ap, .int (nI rn), .int t, .int (gB w)])), (ap, .inl (E.2.1 0, 64, .inl f))]) (As := [.int (nI c)]) (rest := []) (n := 1) cx (c_X4_requireCell_t l E (nI c) hb2) gX4_handedOn_X4_requireCell rfl (by decide +kernel) rfl rfl ⟨Nat.le_of_ble_eq_true rfl, Nat.le_of_ble_eq_true rfl⟩ ⟨Nat.zero_le _, Nat.zero_le _⟩ [] (by decide) rfl rfl rfl rfl (Nat.le_of_ble_eq_true rfl) dX4_handedOn_1 ?_
  refine g_iload_n cx dX4_handedOn_4 rfl ?_
  refine g_callS (ws' := [(hx, .inr (4, [.ref hp, .ref hg, .ref hh, .ref hsl, .ref hsv, .ref htx])), (hg, .inr (2, [.ref gv, .ref ge, .long mk, .int lo])), (gv, .inl (E.2.1 0, 64, .inl fv)), (ge, .inl (E.2.1 0, 64, .inl fe)), (hp, .inr (3, [.ref ap, .int (nI rn), .int t, .int (gB w)])), (ap, .inl (E.2.1 0, 64, .inl f))]) (As := [.int (nI o9)]) (rest := []) (n := 1) cx (c_X4_requireCell_t l E (nI o9) hb) gX4_handedOn_X4_requireCell rfl (by decide +kernel) rfl rfl ⟨Nat.le_of_ble_eq_true rfl, Nat.le_of_ble_eq_true rfl⟩ ⟨Nat.zero_le _, Nat.zero_le _⟩ [] (by decide) rfl rfl rfl rfl (Nat.le_of_ble_eq_true rfl) dX4_handedOn_5 ?_
  refine g_aload_n cx dX4_handedOn_8 rfl ?_
  refine g_callV (ws' := [(hx, .inr (4, [.ref hp, .ref hg, .ref hh, .ref hsl, .ref hsv, .ref htx])), (hg, .inr (2, [.ref gv, .ref ge, .long (pM w rn t f), .int (pG w rn t f)])), (gv, .inl (E.2.1 0, 64, .inl (pV w rn t f))), (ge, .inl (E.2.1 0, 64, .inl (pE w rn t f))), (hp, .inr (3, [.ref ap, .int (nI rn), .int t, .int (gB w)])), (ap, .inl (E.2.1 0, 64, .inl f))]) (As := []) (rest := []) (n := 0) (T := TX4) (N := 6) (ci := 4) cx (c_X4_paint l E hx hp hg hh hsl hsv htx gv ge fv fe mk lo ap f rn t w (by omega)) gX4_handedOn_X4_paint rfl (by decide +kernel) rfl rfl ⟨Nat.le_of_ble_eq_true rfl, Nat.le_of_ble_eq_true rfl⟩ ⟨Nat.zero_le _, Nat.zero_le _⟩ [0, 1, 2, 3, 4, 5] 0 rfl rfl (by decide) rfl rfl rfl rfl (Nat.le_of_ble_eq_true rfl) dX4_handedOn_9 ?_
  refine g_aload_n cx dX4_handedOn_12 rfl ?_
  refine g_get (C := RX4) (T := TX4) (N := 6) (ci := 4) cx hiX4 0 0 (by decide) rfl (by decide +kernel) rfl rfl dX4_handedOn_13 ?_
  refine g_iload_n cx dX4_handedOn_16 rfl ?_
  refine g_bipush cx dX4_handedOn_17 kc_b8 ?_
  refine g_idiv cx dX4_handedOn_19 (by decide) ?_
  refine g_top (pk_div (a := c) (d := 8) (by omega) (by omega) (by omega)) ?_
  refine g_callV (ws' := [(hx, .inr (4, [.ref hp, .ref hg, .ref hh, .ref hsl, .ref hsv, .ref htx])), (hg, .inr (2, [.ref gv, .ref ge, .long (pM w rn t f), .int (pG w rn t f)])), (gv, .inl (E.2.1 0, 64, .inl (pV w rn t f))), (ge, .inl (E.2.1 0, 64, .inl (pE w rn t f))), (hp, .inr (3, [.ref ap, .int (nI rn), .int t, .int (gB w)])), (ap, .inl (E.2.1 0, 64, .inl f))]) (As := [.int (nI (c / 8))]) (rest := []) (n := 1) (T := TX3) (N := 4) (ci := 3) cx (c_X3_directionOfRow l E hp ap f (nI rn) t w (c / 8) (by omega)) gX4_handedOn_X3_directionOfRow rfl (by decide +kernel) rfl rfl ⟨Nat.le_of_ble_eq_true rfl, Nat.le_of_ble_eq_true rfl⟩ ⟨Nat.zero_le _, Nat.zero_le _⟩ [4, 5] 4 rfl rfl (by decide) rfl rfl rfl rfl (Nat.le_of_ble_eq_true rfl) dX4_handedOn_20 ?_
  refine g_istore_n (lv' := [(3, .int (dirI w (c / 8))), (0, .ref hx), (1, .int (nI c)), (2, .int (nI o9))]) cx dX4_handedOn_23 rfl (by decide) rfl ?_
  refine g_gets cx cx.2.2.2.2.2.1.2.1.1 (by decide +kernel) dX4_handedOn_24 ?_
  refine g_aload_n cx dX4_handedOn_27 rfl ?_
  refine g_get (C := RX4) (T := TX4) (N := 6) (ci := 4) cx hiX4 0 0 (by decide) rfl (by decide +kernel) rfl rfl dX4_handedOn_28 ?_
  refine g_get (C := RX3) (T := TX3) (N := 4) (ci := 3) cx hiX3 4 1 (by decide) rfl (by decide +kernel) rfl rfl dX4_handedOn_31 ?_
  refine g_iconst cx dX4_handedOn_34 kc_i1 ?_
  refine g_iadd cx dX4_handedOn_35 ?_
  refine g_top (nI_add rn 1) ?_
  refine g_ti cx cx.2.2.2.2.2.1.2.1.1 (vp_in_nI (by omega) (by omega)) ((congrArg zF (nI_clamp (by omega))).trans (zF_nat (by omega))) dX4_handedOn_36 ?_
  refine g_istore (lv' := [(4, .int (nI (nF (rn + 1)))), (3, .int (dirI w (c / 8))), (0, .ref hx), (1, .int (nI c)), (2, .int (nI o9))]) cx dX4_handedOn_37 (by decide) rfl ?_
  refine g_gets cx cx.2.2.2.2.2.1.2.1.1 (by decide +kernel) dX4_handedOn_39 ?_
  refine g_aload_n cx dX4_handedOn_42 rfl ?_
  refine g_get (C := RX4) (T := TX4) (N := 6) (ci := 4) cx hiX4 0 0 (by decide) rfl (by decide +kernel) rfl rfl dX4_handedOn_43 ?_
  refine g_get (C := RX3) (T := TX3) (N := 4) (ci := 3) cx hiX3 4 1 (by decide) rfl (by decide +kernel) rfl rfl dX4_handedOn_46 ?_
  refine g_ti cx cx.2.2.2.2.2.1.2.1.1 (vp_in_nI (by omega) (by omega)) ((congrArg zF (nI_clamp (by omega))).trans (zF_nat (by omega))) dX4_handedOn_49 ?_
  refine g_istore (lv' := [(5, .int (nI (nF rn))), (4, .int (nI (nF (rn + 1)))), (3, .int (dirI w (c / 8))), (0, .ref hx), (1, .int (nI c)), (2, .int (nI o9))]) cx dX4_handedOn_50 (by decide) rfl ?_
  have L52 : ∀ (n_ : Nat) (k : Nat), cntR rn - k < n_ → k ≤ cntR rn → hoC w rn c (nI o9) (pE w rn t f c) (cntR rn - k) k = hoC w rn c (nI o9) (pE w rn t f c) (cntR rn) 0 → gG pX l eX ({ frames := 5, cells := 0, slots := 0, locals := 116 } : Room) sX mX ([.ref hx, .int (nI c), .int (nI o9)] : List Value).toArray bX tX cX 6 E A (MQ bX (gQ E [(hx, .inr (4, [.ref hp, .ref hg, .ref hh, .ref hsl, .ref hsv, .ref htx])), (hg, .inr (2, [.ref gv, .ref ge, .long (pM w rn t f), .int (pG w rn t f)])), (gv, .inl (E.2.1 0, 64, .inl (pV w rn t f))), (ge, .inl (E.2.1 0, 64, .inl (pE w rn t f))), (hp, .inr (3, [.ref ap, .int (nI rn), .int t, .int (gB w)])), (ap, .inl (E.2.1 0, 64, .inl f))] (some (.int (hoC w rn c (nI o9) (pE w rn t f c) (cntR rn) 0))) A) ([.ref hx, .int (nI c), .int (nI o9)] : List Value).toArray sX 0 0 A) 0 0 [(hx, .inr (4, [.ref hp, .ref hg, .ref hh, .ref hsl, .ref hsv, .ref htx])), (hg, .inr (2, [.ref gv, .ref ge, .long (pM w rn t f), .int (pG w rn t f)])), (gv, .inl (E.2.1 0, 64, .inl (pV w rn t f))), (ge, .inl (E.2.1 0, 64, .inl (pE w rn t f))), (hp, .inr (3, [.ref ap, .int (nI rn), .int t, .int (gB w)])), (ap, .inl (E.2.1 0, 64, .inl f))] [(0, .ref hx), (1, .int (nI c)), (2, .int (nI o9)), (3, .int (dirI w (c / 8))), (4, .int (nI (nF (rn + 1)))), (5, .int (nI (nF rn + k)))] [] 52 := by
    intro n_
    induction n_ with
    | zero => intro k hm_; exact absurd hm_ (Nat.not_lt_zero _)
    | succ n_ ih_L52 =>
      intro k hm_ hk he
      refine g_iload cx dX4_handedOn_52 rfl ?_
      refine g_iload cx dX4_handedOn_54 rfl ?_
      refine g_icmp_ge (tgt := 98) cx dX4_handedOn_56 (by decide) (fun z1 => ?_) (fun z1 => ?_)
      ·
        have z1 := gn_le (a := nF (rn + 1)) (b := nF rn + k) (by omega) (by omega) z1
        refine g_iconst cx dX4_handedOn_98 kc_i0 ?_
        exact g_iretE cx dX4_handedOn_99 (rfl) (by rw [← he, show cntR rn - k = 0 from by omega]; rfl)
      ·
        have z1 := gn_nle (a := nF (rn + 1)) (b := nF rn + k) (by omega) (by omega) z1
        refine g_iload_n cx dX4_handedOn_59 rfl ?_
        refine g_iload cx dX4_handedOn_60 rfl ?_
        refine g_iload_n cx dX4_handedOn_62 rfl ?_
        refine g_callS (ws' := [(hx, .inr (4, [.ref hp, .ref hg, .ref hh, .ref hsl, .ref hsv, .ref htx])), (hg, .inr (2, [.ref gv, .ref ge, .long (pM w rn t f), .int (pG w rn t f)])), (gv, .inl (E.2.1 0, 64, .inl (pV w rn t f))), (ge, .inl (E.2.1 0, 64, .inl (pE w rn t f))), (hp, .inr (3, [.ref ap, .int (nI rn), .int t, .int (gB w)])), (ap, .inl (E.2.1 0, 64, .inl f))]) (As := [.int (nI c), .int (nI (nF rn + k)), .int (dirI w (c / 8))]) (rest := []) (n := 3) cx (c_X4_cellTowards l E c (nF rn + k) (dirI w (c / 8)) (by omega) (by omega)) gX4_handedOn_X4_cellTowards rfl (by decide +kernel) rfl rfl ⟨Nat.le_of_ble_eq_true rfl, Nat.le_of_ble_eq_true rfl⟩ ⟨Nat.zero_le _, Nat.zero_le _⟩ [] (by decide) rfl rfl rfl rfl (Nat.le_of_ble_eq_true rfl) dX4_handedOn_63 ?_
        refine g_iload_n cx dX4_handedOn_66 rfl ?_
        refine g_icmp_ne (tgt := 92) cx dX4_handedOn_67 (by decide) (fun z2 => ?_) (fun z2 => ?_)
        ·
          refine g_iinc (lv' := [(5, .int (nI (nF rn + k + 1))), (0, .ref hx), (1, .int (nI c)), (2, .int (nI o9)), (3, .int (dirI w (c / 8))), (4, .int (nI (nF (rn + 1))))]) (k := 5) cx dX4_handedOn_92 rfl (gn_inc1 (nF rn + k)) (by decide) rfl ?_
          refine g_goto (tgt := 52) cx dX4_handedOn_95 (by decide) ?_
          refine g_lv [1, 2, 3, 4, 5, 0] rfl ?_
          exact ih_L52 (k + 1) (by omega) (by omega) ((hoC_n (by omega) (by assumption)).symm.trans he)
        ·
          refine g_aload_n cx dX4_handedOn_70 rfl ?_
          refine g_get (C := RX4) (T := TX4) (N := 6) (ci := 4) cx hiX4 0 1 (by decide) rfl (by decide +kernel) rfl rfl dX4_handedOn_71 ?_
          refine g_get (C := RX2) (T := TX2) (N := 4) (ci := 2) cx hiX2 1 1 (by decide) rfl (by decide +kernel) rfl rfl dX4_handedOn_74 ?_
          refine g_iload_n cx dX4_handedOn_77 rfl ?_
          refine g_iald cx 3 rfl rfl (vp_in_nI (by omega) (by omega)) (congrArg _ (nI_clamp (by omega))) dX4_handedOn_78 ?_
          refine g_aload_n cx dX4_handedOn_79 rfl ?_
          refine g_get (C := RX4) (T := TX4) (N := 6) (ci := 4) cx hiX4 0 0 (by decide) rfl (by decide +kernel) rfl rfl dX4_handedOn_80 ?_
          refine g_get (C := RX3) (T := TX3) (N := 4) (ci := 3) cx hiX3 4 1 (by decide) rfl (by decide +kernel) rfl rfl dX4_handedOn_83 ?_
          refine g_iload cx dX4_handedOn_86 rfl ?_
          refine g_callS (ws' := [(hx, .inr (4, [.ref hp, .ref hg, .ref hh, .ref hsl, .ref hsv, .ref htx])), (hg, .inr (2, [.ref gv, .ref ge, .long (pM w rn t f), .int (pG w rn t f)])), (gv, .inl (E.2.1 0, 64, .inl (pV w rn t f))), (ge, .inl (E.2.1 0, 64, .inl (pE w rn t f))), (hp, .inr (3, [.ref ap, .int (nI rn), .int t, .int (gB w)])), (ap, .inl (E.2.1 0, 64, .inl f))]) (As := [.int ((pE w rn t f) c), .int (nI rn), .int (nI (nF rn + k))]) (rest := []) (n := 3) cx (c_X4_shareOf l E ((pE w rn t f) c) rn (nF rn + k) (by omega) (by omega)) gX4_handedOn_X4_shareOf rfl (by decide +kernel) rfl rfl ⟨Nat.le_of_ble_eq_true rfl, Nat.le_of_ble_eq_true rfl⟩ ⟨Nat.zero_le _, Nat.zero_le _⟩ [] (by decide) rfl rfl rfl rfl (Nat.le_of_ble_eq_true rfl) dX4_handedOn_88 ?_
          exact g_iretE cx dX4_handedOn_91 (rfl) (by rw [← he]; exact (hoC_t (by omega) (by assumption)).symm)
  refine g_lv [3, 4, 5, 2, 1, 0] rfl ?_
  exact L52 (cntR rn - 0 + 1) 0 (by omega) (by omega) rfl
set_option maxRecDepth 100000 in
set_option maxHeartbeats 4000000 in
theorem c_X4_smoothestRule (l : Launch) (E : gEnv) (hx : Nat) (hp : Nat) (hg : Nat) (hh : Nat) (hsl : Nat) (hsv : Nat) (htx : Nat) (gv : Nat) (ge : Nat) (fv : Nat → Int32) (fe : Nat → Int32) (mk : Int64) (lo : Int32) (ap : Nat) (f : Nat → Int32) (rn : Nat) (t : Int32) (w : Bool) (hr : rn < 4) : gM l yX4_smoothestRule wsX4_smoothestRule ({ frames := 5, cells := 0, slots := 0, locals := 117 } : Room) E [.ref hx] [(hx, .inr (4, [.ref hp, .ref hg, .ref hh, .ref hsl, .ref hsv, .ref htx])), (hg, .inr (2, [.ref gv, .ref ge, .long mk, .int lo])), (gv, .inl (E.2.1 0, 64, .inl fv)), (ge, .inl (E.2.1 0, 64, .inl fe)), (hp, .inr (3, [.ref ap, .int (nI rn), .int t, .int (gB w)])), (ap, .inl (E.2.1 0, 64, .inl f))] [(hx, .inr (4, [.ref hp, .ref hg, .ref hh, .ref hsl, .ref hsv, .ref htx])), (hg, .inr (2, [.ref gv, .ref ge, .long (pM w 3 t f), .int (pG w 3 t f)])), (gv, .inl (E.2.1 0, 64, .inl (pV w 3 t f))), (ge, .inl (E.2.1 0, 64, .inl (pE w 3 t f))), (hp, .inr (3, [.ref ap, .int (nI rn), .int t, .int (gB w)])), (ap, .inl (E.2.1 0, 64, .inl f))] (some (.int (nI ((cls9 (fun i => dall (pM w i t f) f 16) 3).1)))) := by
  refine gM.ofG (cc := cX4_smoothestRule) (nL := 5) (ret := (some .int)) (own := RX4) [(0, .ref hx)] (by decide) rfl rfl (Nat.le_of_ble_eq_true rfl) rfl rfl ?_
  intro pX eX sX mX bX tX cX A cx
  refine g_iconst cx dX4_smoothestRule_0 kc_i0 ?_
  refine g_istore_n (lv' := [(1, .int (nI 0)), (0, .ref hx)]) cx dX4_smoothestRule_1 rfl (by decide) rfl ?_
  refine g_aload_n cx dX4_smoothestRule_2 rfl ?_
  refine g_iconst cx dX4_smoothestRule_3 kc_i0 ?_
  refine g_callV (ws' := [(hx, .inr (4, [.ref hp, .ref hg, .ref hh, .ref hsl, .ref hsv, .ref htx])), (hg, .inr (2, [.ref gv, .ref ge, .long (pM w 0 t f), .int (pG w 0 t f)])), (gv, .inl (E.2.1 0, 64, .inl (pV w 0 t f))), (ge, .inl (E.2.1 0, 64, .inl (pE w 0 t f))), (hp, .inr (3, [.ref ap, .int (nI rn), .int t, .int (gB w)])), (ap, .inl (E.2.1 0, 64, .inl f))]) (As := [.int (nI 0)]) (rest := []) (n := 1) (T := TX4) (N := 6) (ci := 4) cx (c_X4_roughnessWith l E hx hp hg hh hsl hsv htx gv ge fv fe mk lo ap f rn t w 0 (by omega) (by omega)) gX4_smoothestRule_X4_roughnessWith rfl (by decide +kernel) rfl rfl ⟨Nat.le_of_ble_eq_true rfl, Nat.le_of_ble_eq_true rfl⟩ ⟨Nat.zero_le _, Nat.zero_le _⟩ [0, 1, 2, 3, 4, 5] 0 rfl rfl (by decide) rfl rfl rfl rfl (Nat.le_of_ble_eq_true rfl) dX4_smoothestRule_4 ?_
  refine g_istore_n (lv' := [(2, .int (dall (pM w 0 t f) f 16)), (1, .int (nI 0)), (0, .ref hx)]) cx dX4_smoothestRule_7 rfl (by decide) rfl ?_
  refine g_iconst cx dX4_smoothestRule_8 kc_i1 ?_
  refine g_istore_n (lv' := [(3, .int (nI 1)), (2, .int (dall (pM w 0 t f) f 16)), (1, .int (nI 0)), (0, .ref hx)]) cx dX4_smoothestRule_9 rfl (by decide) rfl ?_
  have L10 : ∀ (n_ : Nat) (k : Nat) (x : Nat) (y : Int32), 3 - k < n_ → x = (cls9 (fun i => dall (pM w i t f) f 16) k).1 → y = (cls9 (fun i => dall (pM w i t f) f 16) k).2 → k ≤ 3 → gG pX l eX ({ frames := 5, cells := 0, slots := 0, locals := 117 } : Room) sX mX ([.ref hx] : List Value).toArray bX tX cX 5 E A (MQ bX (gQ E [(hx, .inr (4, [.ref hp, .ref hg, .ref hh, .ref hsl, .ref hsv, .ref htx])), (hg, .inr (2, [.ref gv, .ref ge, .long (pM w 3 t f), .int (pG w 3 t f)])), (gv, .inl (E.2.1 0, 64, .inl (pV w 3 t f))), (ge, .inl (E.2.1 0, 64, .inl (pE w 3 t f))), (hp, .inr (3, [.ref ap, .int (nI rn), .int t, .int (gB w)])), (ap, .inl (E.2.1 0, 64, .inl f))] (some (.int (nI ((cls9 (fun i => dall (pM w i t f) f 16) 3).1)))) A) ([.ref hx] : List Value).toArray sX 0 0 A) 0 0 [(hx, .inr (4, [.ref hp, .ref hg, .ref hh, .ref hsl, .ref hsv, .ref htx])), (hg, .inr (2, [.ref gv, .ref ge, .long (pM w k t f), .int (pG w k t f)])), (gv, .inl (E.2.1 0, 64, .inl (pV w k t f))), (ge, .inl (E.2.1 0, 64, .inl (pE w k t f))), (hp, .inr (3, [.ref ap, .int (nI rn), .int t, .int (gB w)])), (ap, .inl (E.2.1 0, 64, .inl f))] [(0, .ref hx), (1, .int (nI x)), (2, .int y), (3, .int (nI (k + 1)))] [] 10 := by
    intro n_
    induction n_ with
    | zero => intro k x y hm_; exact absurd hm_ (Nat.not_lt_zero _)
    | succ n_ ih_L10 =>
      intro k x y hm_ e_x e_y hk
      subst e_x
      subst e_y
      refine g_iload_n cx dX4_smoothestRule_10 rfl ?_
      refine g_iconst cx dX4_smoothestRule_11 kc_i4 ?_
      refine g_icmp_ge (tgt := 39) cx dX4_smoothestRule_12 (by decide) (fun z1 => ?_) (fun z1 => ?_)
      ·
        have z1 := gn_le (a := 4) (b := k + 1) (by omega) (by omega) z1
        obtain rfl : k = 3 := by omega
        refine g_iload_n cx dX4_smoothestRule_39 rfl ?_
        exact g_iretE cx dX4_smoothestRule_40 (rfl) (rfl)
      ·
        have z1 := gn_nle (a := 4) (b := k + 1) (by omega) (by omega) z1
        refine g_aload_n cx dX4_smoothestRule_15 rfl ?_
        refine g_iload_n cx dX4_smoothestRule_16 rfl ?_
        refine g_callV (ws' := [(hx, .inr (4, [.ref hp, .ref hg, .ref hh, .ref hsl, .ref hsv, .ref htx])), (hg, .inr (2, [.ref gv, .ref ge, .long (pM w (k + 1) t f), .int (pG w (k + 1) t f)])), (gv, .inl (E.2.1 0, 64, .inl (pV w (k + 1) t f))), (ge, .inl (E.2.1 0, 64, .inl (pE w (k + 1) t f))), (hp, .inr (3, [.ref ap, .int (nI rn), .int t, .int (gB w)])), (ap, .inl (E.2.1 0, 64, .inl f))]) (As := [.int (nI (k + 1))]) (rest := []) (n := 1) (T := TX4) (N := 6) (ci := 4) cx (c_X4_roughnessWith l E hx hp hg hh hsl hsv htx gv ge (pV w k t f) (pE w k t f) (pM w k t f) (pG w k t f) ap f rn t w (k + 1) (by omega) (by omega)) gX4_smoothestRule_X4_roughnessWith rfl (by decide +kernel) rfl rfl ⟨Nat.le_of_ble_eq_true rfl, Nat.le_of_ble_eq_true rfl⟩ ⟨Nat.zero_le _, Nat.zero_le _⟩ [0, 1, 2, 3, 4, 5] 0 rfl rfl (by decide) rfl rfl rfl rfl (Nat.le_of_ble_eq_true rfl) dX4_smoothestRule_17 ?_
        refine g_istore (lv' := [(4, .int (dall (pM w (k + 1) t f) f 16)), (0, .ref hx), (1, .int (nI ((cls9 (fun i => dall (pM w i t f) f 16) k).1))), (2, .int ((cls9 (fun i => dall (pM w i t f) f 16) k).2)), (3, .int (nI (k + 1)))]) cx dX4_smoothestRule_20 (by decide) rfl ?_
        refine g_iload cx dX4_smoothestRule_22 rfl ?_
        refine g_iload_n cx dX4_smoothestRule_24 rfl ?_
        refine g_icmp_ge (tgt := 33) cx dX4_smoothestRule_25 (by decide) (fun z2 => ?_) (fun z2 => ?_)
        ·
          refine g_iinc (lv' := [(3, .int (nI (k + 1 + 1))), (4, .int (dall (pM w (k + 1) t f) f 16)), (0, .ref hx), (1, .int (nI ((cls9 (fun i => dall (pM w i t f) f 16) k).1))), (2, .int ((cls9 (fun i => dall (pM w i t f) f 16) k).2))]) (k := 4) cx dX4_smoothestRule_33 rfl (gn_inc1 (k + 1)) (by decide) rfl ?_
          refine g_goto (tgt := 10) cx dX4_smoothestRule_36 (by decide) ?_
          refine g_lv [2, 3, 4, 0] rfl ?_
          exact ih_L10 (k + 1) ((cls9 (fun i => dall (pM w i t f) f 16) k).1) ((cls9 (fun i => dall (pM w i t f) f 16) k).2) (by omega) (congrArg Prod.fst (cls9_f (R := (fun i => dall (pM w i t f) f 16)) (Int32.not_lt.mpr z2))) (congrArg Prod.snd (cls9_f (R := (fun i => dall (pM w i t f) f 16)) (Int32.not_lt.mpr z2))) (by omega)
        ·
          refine g_iload cx dX4_smoothestRule_28 rfl ?_
          refine g_istore_n (lv' := [(2, .int (dall (pM w (k + 1) t f) f 16)), (4, .int (dall (pM w (k + 1) t f) f 16)), (0, .ref hx), (1, .int (nI ((cls9 (fun i => dall (pM w i t f) f 16) k).1))), (3, .int (nI (k + 1)))]) cx dX4_smoothestRule_30 rfl (by decide) rfl ?_
          refine g_iload_n cx dX4_smoothestRule_31 rfl ?_
          refine g_istore_n (lv' := [(1, .int (nI (k + 1))), (2, .int (dall (pM w (k + 1) t f) f 16)), (4, .int (dall (pM w (k + 1) t f) f 16)), (0, .ref hx), (3, .int (nI (k + 1)))]) cx dX4_smoothestRule_32 rfl (by decide) rfl ?_
          refine g_iinc (lv' := [(3, .int (nI (k + 1 + 1))), (1, .int (nI (k + 1))), (2, .int (dall (pM w (k + 1) t f) f 16)), (4, .int (dall (pM w (k + 1) t f) f 16)), (0, .ref hx)]) (k := 4) cx dX4_smoothestRule_33 rfl (gn_inc1 (k + 1)) (by decide) rfl ?_
          refine g_goto (tgt := 10) cx dX4_smoothestRule_36 (by decide) ?_
          refine g_lv [4, 1, 2, 0] rfl ?_
          exact ih_L10 (k + 1) (k + 1) (dall (pM w (k + 1) t f) f 16) (by omega) (congrArg Prod.fst (cls9_t (R := (fun i => dall (pM w i t f) f 16)) (Int32.not_le.mp z2))) (congrArg Prod.snd (cls9_t (R := (fun i => dall (pM w i t f) f 16)) (Int32.not_le.mp z2))) (by omega)
  refine g_lv [3, 2, 1, 0] rfl ?_
  exact L10 (3 - 0 + 1) 0 0 (dall (pM w 0 t f) f 16) (by omega) rfl rfl (by omega)
set_option maxRecDepth 100000 in
set_option maxHeartbeats 4000000 in
theorem c_X4_thresholdFor_a (l : Launch) (E : gEnv) (hl0 : l.stackTraces = false) (hx : Nat) (v : Int32) (hb : bR v 0 64 = false) : gZ l yX4_thresholdFor wsX4_thresholdFor ({ frames := 7, cells := 1, slots := 6, locals := 120 } : Room) E [.ref hx, .int v] [] "java/lang/IllegalArgumentException" := by
  refine gZ.ofG (cc := cX4_thresholdFor) (nL := 3) (ret := (some .int)) (own := RX4) [(0, .ref hx), (1, .int v)] (by decide) rfl rfl (Nat.le_of_ble_eq_true rfl) rfl ?_
  intro pX eX sX mX bX tX cX A cx hex
  have hiX2 : ∀ w ∈ u_ws RX2 TX2 4, w ∈ wsX4_thresholdFor := by decide +kernel
  have hiX3 : ∀ w ∈ u_ws RX3 TX3 4, w ∈ wsX4_thresholdFor := by decide +kernel
  have hiX4 : ∀ w ∈ u_ws RX4 TX4 6, w ∈ wsX4_thresholdFor := by decide +kernel
  have hk0 := bR_f.mp hb
  refine g_iload_n cx dX4_thresholdFor_0 rfl ?_
  refine g_if_lt (tgt := 14) cx dX4_thresholdFor_1 (by decide) (fun z1 => ?_) (fun z1 => ?_)
  ·
    have z1 := gi0_lt z1
    refine g_iconst cx dX4_thresholdFor_14 kc_i0 ?_
    exact g_callSZ (As := [.int (nI 0)]) (rest := []) (n := 1) cx hex (c_X4_requireArgument_f l E hl0 false rfl) gX4_thresholdFor_X4_requireArgument rfl (by decide +kernel) rfl rfl ⟨Nat.le_of_ble_eq_true rfl, Nat.le_of_ble_eq_true rfl⟩ ⟨Nat.le_of_ble_eq_true rfl, Nat.le_of_ble_eq_true rfl⟩ [] (by decide) rfl rfl rfl (Nat.le_of_ble_eq_true rfl) dX4_thresholdFor_15
  ·
    have z1 := gi0_nlt z1
    refine g_iload_n cx dX4_thresholdFor_4 rfl ?_
    refine g_bipush cx dX4_thresholdFor_5 kc_b64 ?_
    refine g_icmp_gt (tgt := 14) cx dX4_thresholdFor_7 (by decide) (fun z2 => ?_) (fun z2 => ?_)
    ·
      have z2 := gj_lt (b := 64) (by omega) z2
      refine g_iconst cx dX4_thresholdFor_14 kc_i0 ?_
      exact g_callSZ (As := [.int (nI 0)]) (rest := []) (n := 1) cx hex (c_X4_requireArgument_f l E hl0 false rfl) gX4_thresholdFor_X4_requireArgument rfl (by decide +kernel) rfl rfl ⟨Nat.le_of_ble_eq_true rfl, Nat.le_of_ble_eq_true rfl⟩ ⟨Nat.le_of_ble_eq_true rfl, Nat.le_of_ble_eq_true rfl⟩ [] (by decide) rfl rfl rfl (Nat.le_of_ble_eq_true rfl) dX4_thresholdFor_15
    ·
      have z2 := gj_nlt (b := 64) (by omega) z2
      refine g_iconst cx dX4_thresholdFor_10 kc_i1 ?_
      refine g_goto (tgt := 15) cx dX4_thresholdFor_11 (by decide) ?_
      exfalso
      omega
set_option maxRecDepth 100000 in
set_option maxHeartbeats 4000000 in
theorem c_X4_thresholdFor_c (l : Launch) (E : gEnv) (hx : Nat) (hp : Nat) (hg : Nat) (hh : Nat) (hsl : Nat) (hsv : Nat) (htx : Nat) (gv : Nat) (ge : Nat) (fv : Nat → Int32) (fe : Nat → Int32) (mk : Int64) (lo : Int32) (ap : Nat) (f : Nat → Int32) (rn : Nat) (t : Int32) (w : Bool) (v : Int32) (hr : rn < 4) (hb : bR v 0 64 = true) : gM l yX4_thresholdFor wsX4_thresholdFor ({ frames := 4, cells := 0, slots := 0, locals := 96 } : Room) E [.ref hx, .int v] [(hx, .inr (4, [.ref hp, .ref hg, .ref hh, .ref hsl, .ref hsv, .ref htx])), (hg, .inr (2, [.ref gv, .ref ge, .long mk, .int lo])), (gv, .inl (E.2.1 0, 64, .inl fv)), (ge, .inl (E.2.1 0, 64, .inl fe)), (hp, .inr (3, [.ref ap, .int (nI rn), .int t, .int (gB w)])), (ap, .inl (E.2.1 0, 64, .inl f))] [(hx, .inr (4, [.ref hp, .ref hg, .ref hh, .ref hsl, .ref hsv, .ref htx])), (hg, .inr (2, [.ref gv, .ref ge, .long (tcV mk (fun z => pM w rn (nI (z + 1)) f) (tfC w rn f v 255 0).2), .int (tcV lo (fun z => pG w rn (nI (z + 1)) f) (tfC w rn f v 255 0).2)])), (gv, .inl (E.2.1 0, 64, .inl (tcV fv (fun z => pV w rn (nI (z + 1)) f) (tfC w rn f v 255 0).2))), (ge, .inl (E.2.1 0, 64, .inl (tcV fe (fun z => pE w rn (nI (z + 1)) f) (tfC w rn f v 255 0).2))), (hp, .inr (3, [.ref ap, .int (nI rn), .int t, .int (gB w)])), (ap, .inl (E.2.1 0, 64, .inl f))] (some (.int ((tfC w rn f v 255 0).1))) := by
  refine gM.ofG (cc := cX4_thresholdFor) (nL := 3) (ret := (some .int)) (own := RX4) [(0, .ref hx), (1, .int v)] (by decide) rfl rfl (Nat.le_of_ble_eq_true rfl) rfl rfl ?_
  intro pX eX sX mX bX tX cX A cx
  have hiX2 : ∀ w ∈ u_ws RX2 TX2 4, w ∈ wsX4_thresholdFor := by decide +kernel
  have hiX3 : ∀ w ∈ u_ws RX3 TX3 4, w ∈ wsX4_thresholdFor := by decide +kernel
  have hiX4 : ∀ w ∈ u_ws RX4 TX4 6, w ∈ wsX4_thresholdFor := by decide +kernel
  have hk1 := bR_t.mp hb
  refine g_iload_n cx dX4_thresholdFor_0 rfl ?_
  refine g_if_lt (tgt := 14) cx dX4_thresholdFor_1 (by decide) (fun z1 => ?_) (fun z1 => ?_)
  ·
    have z1 := gi0_lt z1
    refine g_iconst cx dX4_thresholdFor_14 kc_i0 ?_
    exfalso
    omega
  ·
    have z1 := gi0_nlt z1
    refine g_iload_n cx dX4_thresholdFor_4 rfl ?_
    refine g_bipush cx dX4_thresholdFor_5 kc_b64 ?_
    refine g_icmp_gt (tgt := 14) cx dX4_thresholdFor_7 (by decide) (fun z2 => ?_) (fun z2 => ?_)
    ·
      have z2 := gj_lt (b := 64) (by omega) z2
      refine g_iconst cx dX4_thresholdFor_14 kc_i0 ?_
      exfalso
      omega
    ·
      have z2 := gj_nlt (b := 64) (by omega) z2
      refine g_iconst cx dX4_thresholdFor_10 kc_i1 ?_
      refine g_goto (tgt := 15) cx dX4_thresholdFor_11 (by decide) ?_
      refine g_callS (ws' := [(hx, .inr (4, [.ref hp, .ref hg, .ref hh, .ref hsl, .ref hsv, .ref htx])), (hg, .inr (2, [.ref gv, .ref ge, .long mk, .int lo])), (gv, .inl (E.2.1 0, 64, .inl fv)), (ge, .inl (E.2.1 0, 64, .inl fe)), (hp, .inr (3, [.ref ap, .int (nI rn), .int t, .int (gB w)])), (ap, .inl (E.2.1 0, 64, .inl f))]) (As := [.int (nI 1)]) (rest := []) (n := 1) cx (c_X4_requireArgument_t l E true rfl) gX4_thresholdFor_X4_requireArgument rfl (by decide +kernel) rfl rfl ⟨Nat.le_of_ble_eq_true rfl, Nat.le_of_ble_eq_true rfl⟩ ⟨Nat.zero_le _, Nat.zero_le _⟩ [] (by decide) rfl rfl rfl rfl (Nat.le_of_ble_eq_true rfl) dX4_thresholdFor_15 ?_
      refine g_iconst cx dX4_thresholdFor_18 kc_i1 ?_
      refine g_istore_n (lv' := [(2, .int (nI 1)), (0, .ref hx), (1, .int v)]) cx dX4_thresholdFor_19 rfl (by decide) rfl ?_
      have L20 : ∀ (n_ : Nat) (k : Nat) (g1 : Nat → Int32) (g2 : Nat → Int32) (g3 : Int64) (g4 : Int32), 255 - k < n_ → g1 = tcV fv (fun z => pV w rn (nI (z + 1)) f) k → g2 = tcV fe (fun z => pE w rn (nI (z + 1)) f) k → g3 = tcV mk (fun z => pM w rn (nI (z + 1)) f) k → g4 = tcV lo (fun z => pG w rn (nI (z + 1)) f) k → k ≤ 255 → tfC w rn f v (255 - k) k = tfC w rn f v 255 0 → gG pX l eX ({ frames := 4, cells := 0, slots := 0, locals := 96 } : Room) sX mX ([.ref hx, .int v] : List Value).toArray bX tX cX 3 E A (MQ bX (gQ E [(hx, .inr (4, [.ref hp, .ref hg, .ref hh, .ref hsl, .ref hsv, .ref htx])), (hg, .inr (2, [.ref gv, .ref ge, .long (tcV mk (fun z => pM w rn (nI (z + 1)) f) (tfC w rn f v 255 0).2), .int (tcV lo (fun z => pG w rn (nI (z + 1)) f) (tfC w rn f v 255 0).2)])), (gv, .inl (E.2.1 0, 64, .inl (tcV fv (fun z => pV w rn (nI (z + 1)) f) (tfC w rn f v 255 0).2))), (ge, .inl (E.2.1 0, 64, .inl (tcV fe (fun z => pE w rn (nI (z + 1)) f) (tfC w rn f v 255 0).2))), (hp, .inr (3, [.ref ap, .int (nI rn), .int t, .int (gB w)])), (ap, .inl (E.2.1 0, 64, .inl f))] (some (.int ((tfC w rn f v 255 0).1))) A) ([.ref hx, .int v] : List Value).toArray sX 0 0 A) 0 0 [(hx, .inr (4, [.ref hp, .ref hg, .ref hh, .ref hsl, .ref hsv, .ref htx])), (hg, .inr (2, [.ref gv, .ref ge, .long g3, .int g4])), (gv, .inl (E.2.1 0, 64, .inl g1)), (ge, .inl (E.2.1 0, 64, .inl g2)), (hp, .inr (3, [.ref ap, .int (nI rn), .int t, .int (gB w)])), (ap, .inl (E.2.1 0, 64, .inl f))] [(0, .ref hx), (1, .int v), (2, .int (nI (k + 1)))] [] 20 := by
        intro n_
        induction n_ with
        | zero => intro k g1 g2 g3 g4 hm_; exact absurd hm_ (Nat.not_lt_zero _)
        | succ n_ ih_L20 =>
          intro k g1 g2 g3 g4 hm_ e_g1 e_g2 e_g3 e_g4 hk he
          subst e_g1
          subst e_g2
          subst e_g3
          subst e_g4
          refine g_iload_n cx dX4_thresholdFor_20 rfl ?_
          refine g_sipush cx dX4_thresholdFor_21 kc_s255 ?_
          refine g_icmp_gt (tgt := 68) cx dX4_thresholdFor_24 (by decide) (fun z3 => ?_) (fun z3 => ?_)
          ·
            have z3 := gn_lt (a := 255) (b := k + 1) (by omega) (by omega) z3
            refine g_iconst cx dX4_thresholdFor_68 kc_im1 ?_
            exact g_iretE cx dX4_thresholdFor_69 (by rw [← he, show 255 - k = 0 from by omega]; rfl) (by rw [← he, show 255 - k = 0 from by omega]; rfl)
          ·
            have z3 := gn_nlt (a := 255) (b := k + 1) (by omega) (by omega) z3
            refine g_aload_n cx dX4_thresholdFor_27 rfl ?_
            refine g_get (C := RX4) (T := TX4) (N := 6) (ci := 4) cx hiX4 0 1 (by decide) rfl (by decide +kernel) rfl rfl dX4_thresholdFor_28 ?_
            refine g_aload_n cx dX4_thresholdFor_31 rfl ?_
            refine g_get (C := RX4) (T := TX4) (N := 6) (ci := 4) cx hiX4 0 0 (by decide) rfl (by decide +kernel) rfl rfl dX4_thresholdFor_32 ?_
            refine g_aload_n cx dX4_thresholdFor_35 rfl ?_
            refine g_get (C := RX4) (T := TX4) (N := 6) (ci := 4) cx hiX4 0 0 (by decide) rfl (by decide +kernel) rfl rfl dX4_thresholdFor_36 ?_
            refine g_get (C := RX3) (T := TX3) (N := 4) (ci := 3) cx hiX3 4 1 (by decide) rfl (by decide +kernel) rfl rfl dX4_thresholdFor_39 ?_
            refine g_iload_n cx dX4_thresholdFor_42 rfl ?_
            refine g_callV (ws' := [(hx, .inr (4, [.ref hp, .ref hg, .ref hh, .ref hsl, .ref hsv, .ref htx])), (hg, .inr (2, [.ref gv, .ref ge, .long ((pst w rn (nI (k + 1)) (f, (tcV fe (fun z => pE w rn (nI (z + 1)) f) k), 0, nI 0) 64).2.2.1), .int ((pst w rn (nI (k + 1)) (f, (tcV fe (fun z => pE w rn (nI (z + 1)) f) k), 0, nI 0) 64).2.2.2)])), (gv, .inl (E.2.1 0, 64, .inl ((pst w rn (nI (k + 1)) (f, (tcV fe (fun z => pE w rn (nI (z + 1)) f) k), 0, nI 0) 64).1))), (ge, .inl (E.2.1 0, 64, .inl ((pst w rn (nI (k + 1)) (f, (tcV fe (fun z => pE w rn (nI (z + 1)) f) k), 0, nI 0) 64).2.1))), (hp, .inr (3, [.ref ap, .int (nI rn), .int t, .int (gB w)])), (ap, .inl (E.2.1 0, 64, .inl f))]) (As := [.ref hp, .int (nI rn), .int (nI (k + 1))]) (rest := []) (n := 3) (T := TX2) (N := 4) (ci := 2) cx (c_X2_paintByHandingOn l E hg gv ge (tcV fv (fun z => pV w rn (nI (z + 1)) f) k) (tcV fe (fun z => pE w rn (nI (z + 1)) f) k) (tcV mk (fun z => pM w rn (nI (z + 1)) f) k) (tcV lo (fun z => pG w rn (nI (z + 1)) f) k) hp ap f (nI rn) t w rn (nI (k + 1)) (by omega)) gX4_thresholdFor_X2_paintByHandingOn rfl (by decide +kernel) rfl rfl ⟨Nat.le_of_ble_eq_true rfl, Nat.le_of_ble_eq_true rfl⟩ ⟨Nat.zero_le _, Nat.zero_le _⟩ [1, 2, 3, 4, 5] 1 rfl rfl (by decide) rfl rfl rfl rfl (Nat.le_of_ble_eq_true rfl) dX4_thresholdFor_43 ?_
            refine g_wsP (ws' := [(hx, .inr (4, [.ref hp, .ref hg, .ref hh, .ref hsl, .ref hsv, .ref htx])), (hg, .inr (2, [.ref gv, .ref ge, .long ((pst w rn (nI (k + 1)) (f, (tcV fe (fun z => pE w rn (nI (z + 1)) f) k), 0, nI 0) 64).2.2.1), .int ((pst w rn (nI (k + 1)) (f, (tcV fe (fun z => pE w rn (nI (z + 1)) f) k), 0, nI 0) 64).2.2.2)])), (gv, .inl (E.2.1 0, 64, .inl ((pst w rn (nI (k + 1)) (f, (tcV fe (fun z => pE w rn (nI (z + 1)) f) k), 0, nI 0) 64).1))), (ge, .inl (E.2.1 0, 64, .inl (pE w rn (nI (k + 1)) f))), (hp, .inr (3, [.ref ap, .int (nI rn), .int t, .int (gB w)])), (ap, .inl (E.2.1 0, 64, .inl f))]) rfl (fun H hP => gP_cell (ws := [(hx, .inr (4, [.ref hp, .ref hg, .ref hh, .ref hsl, .ref hsv, .ref htx])), (hg, .inr (2, [.ref gv, .ref ge, .long ((pst w rn (nI (k + 1)) (f, (tcV fe (fun z => pE w rn (nI (z + 1)) f) k), 0, nI 0) 64).2.2.1), .int ((pst w rn (nI (k + 1)) (f, (tcV fe (fun z => pE w rn (nI (z + 1)) f) k), 0, nI 0) 64).2.2.2)])), (gv, .inl (E.2.1 0, 64, .inl ((pst w rn (nI (k + 1)) (f, (tcV fe (fun z => pE w rn (nI (z + 1)) f) k), 0, nI 0) 64).1))), (ge, .inl (E.2.1 0, 64, .inl ((pst w rn (nI (k + 1)) (f, (tcV fe (fun z => pE w rn (nI (z + 1)) f) k), 0, nI 0) 64).2.1))), (hp, .inr (3, [.ref ap, .int (nI rn), .int t, .int (gB w)])), (ap, .inl (E.2.1 0, 64, .inl f))]) (k := 3) (a := ge) (cA := E.2.1 0) (cB := E.2.1 0) (x := (64, .inl ((pst w rn (nI (k + 1)) (f, (tcV fe (fun z => pE w rn (nI (z + 1)) f) k), 0, nI 0) 64).2.1))) (y := (64, .inl (pE w rn (nI (k + 1)) f))) hP (gcell_eq (pst_E w (by omega) (nI (k + 1)) f (tcV fe (fun z => pE w rn (nI (z + 1)) f) k) 0))) ?_
            refine g_ws (ws' := [(hx, .inr (4, [.ref hp, .ref hg, .ref hh, .ref hsl, .ref hsv, .ref htx])), (hg, .inr (2, [.ref gv, .ref ge, .long (pM w rn (nI (k + 1)) f), .int (pG w rn (nI (k + 1)) f)])), (gv, .inl (E.2.1 0, 64, .inl (pV w rn (nI (k + 1)) f))), (ge, .inl (E.2.1 0, 64, .inl (pE w rn (nI (k + 1)) f))), (hp, .inr (3, [.ref ap, .int (nI rn), .int t, .int (gB w)])), (ap, .inl (E.2.1 0, 64, .inl f))]) (by rw [pst_V, pst_G, pst_M]) ?_
            refine g_aload_n cx dX4_thresholdFor_46 rfl ?_
            refine g_get (C := RX4) (T := TX4) (N := 6) (ci := 4) cx hiX4 0 1 (by decide) rfl (by decide +kernel) rfl rfl dX4_thresholdFor_47 ?_
            refine g_get (C := RX2) (T := TX2) (N := 4) (ci := 2) cx hiX2 1 2 (by decide) rfl (by decide +kernel) rfl rfl dX4_thresholdFor_50 ?_
            refine g_callS (ws' := [(hx, .inr (4, [.ref hp, .ref hg, .ref hh, .ref hsl, .ref hsv, .ref htx])), (hg, .inr (2, [.ref gv, .ref ge, .long (pM w rn (nI (k + 1)) f), .int (pG w rn (nI (k + 1)) f)])), (gv, .inl (E.2.1 0, 64, .inl (pV w rn (nI (k + 1)) f))), (ge, .inl (E.2.1 0, 64, .inl (pE w rn (nI (k + 1)) f))), (hp, .inr (3, [.ref ap, .int (nI rn), .int t, .int (gB w)])), (ap, .inl (E.2.1 0, 64, .inl f))]) (As := [.long (pM w rn (nI (k + 1)) f)]) (rest := []) (n := 1) cx (c_J13_bitCount_95d88 l E (pM w rn (nI (k + 1)) f) ) gX4_thresholdFor_J13_bitCount_95d88 rfl (by decide +kernel) rfl rfl ⟨Nat.le_of_ble_eq_true rfl, Nat.le_of_ble_eq_true rfl⟩ ⟨Nat.zero_le _, Nat.zero_le _⟩ [] (by decide) rfl rfl rfl rfl (Nat.le_of_ble_eq_true rfl) dX4_thresholdFor_53 ?_
            refine g_iload_n cx dX4_thresholdFor_56 rfl ?_
            refine g_icmp_gt (tgt := 62) cx dX4_thresholdFor_57 (by decide) (fun z4 => ?_) (fun z4 => ?_)
            ·
              refine g_iinc (lv' := [(2, .int (nI (k + 1 + 1))), (0, .ref hx), (1, .int v)]) (k := 2) cx dX4_thresholdFor_62 rfl (gn_inc1 (k + 1)) (by decide) rfl ?_
              refine g_goto (tgt := 20) cx dX4_thresholdFor_65 (by decide) ?_
              refine g_lv [1, 2, 0] rfl ?_
              exact ih_L20 (k + 1) (pV w rn (nI (k + 1)) f) (pE w rn (nI (k + 1)) f) (pM w rn (nI (k + 1)) f) (pG w rn (nI (k + 1)) f) (by omega) rfl rfl rfl rfl (by omega) ((tfC_n (by omega) (Int32.not_le.mpr z4)).symm.trans he)
            ·
              refine g_iload_n cx dX4_thresholdFor_60 rfl ?_
              exact g_iretE cx dX4_thresholdFor_61 (by rw [← he, tfC_t (by omega) (Int32.not_lt.mp (by assumption))]; rfl) (by rw [← he, tfC_t (by omega) (Int32.not_lt.mp (by assumption))])
      refine g_lv [1, 2, 0] rfl ?_
      exact L20 (255 - 0 + 1) 0 fv fe mk lo (by omega) rfl rfl rfl rfl (by omega) rfl
set_option maxRecDepth 100000 in
set_option maxHeartbeats 4000000 in
theorem c_X4_excess (l : Launch) (E : gEnv) (hx : Nat) (hp : Nat) (hg : Nat) (hh : Nat) (hsl : Nat) (hsv : Nat) (htx : Nat) (gv : Nat) (ge : Nat) (fv : Nat → Int32) (fe : Nat → Int32) (mk : Int64) (lo : Int32) (ap : Nat) (f : Nat → Int32) (rn : Nat) (t : Int32) (w : Bool) (hr : rn < 4) (hd1 : vf_n64 (FP.ddiv (FP.i2d (bcI (pM w rn t f))) 4634204016564240384)) (hd2 : vf_n64 (FP.ddiv (FP.i2d (isum f 64)) 4670197629211115520)) (hd3 : vf_n64 (FP.dsub (FP.ddiv (FP.i2d (bcI (pM w rn t f))) 4634204016564240384) (FP.ddiv (FP.i2d (isum f 64)) 4670197629211115520))) : gM l yX4_excess wsX4_excess ({ frames := 5, cells := 0, slots := 0, locals := 116 } : Room) E [.ref hx] [(hx, .inr (4, [.ref hp, .ref hg, .ref hh, .ref hsl, .ref hsv, .ref htx])), (hg, .inr (2, [.ref gv, .ref ge, .long mk, .int lo])), (gv, .inl (E.2.1 0, 64, .inl fv)), (ge, .inl (E.2.1 0, 64, .inl fe)), (hp, .inr (3, [.ref ap, .int (nI rn), .int t, .int (gB w)])), (ap, .inl (E.2.1 0, 64, .inl f))] [(hx, .inr (4, [.ref hp, .ref hg, .ref hh, .ref hsl, .ref hsv, .ref htx])), (hg, .inr (2, [.ref gv, .ref ge, .long (pM w rn t f), .int (pG w rn t f)])), (gv, .inl (E.2.1 0, 64, .inl (pV w rn t f))), (ge, .inl (E.2.1 0, 64, .inl (pE w rn t f))), (hp, .inr (3, [.ref ap, .int (nI rn), .int t, .int (gB w)])), (ap, .inl (E.2.1 0, 64, .inl f))] (some (.double (FP.dsub (FP.ddiv (FP.i2d (bcI (pM w rn t f))) 4634204016564240384) (FP.ddiv (FP.i2d (isum f 64)) 4670197629211115520)))) := by
  refine gM.ofG (cc := cX4_excess) (nL := 3) (ret := (some .double)) (own := RX4) [(0, .ref hx)] (by decide) rfl rfl (Nat.le_of_ble_eq_true rfl) rfl rfl ?_
  intro pX eX sX mX bX tX cX A cx
  have hiX2 : ∀ w ∈ u_ws RX2 TX2 4, w ∈ wsX4_excess := by decide +kernel
  have hiX4 : ∀ w ∈ u_ws RX4 TX4 6, w ∈ wsX4_excess := by decide +kernel
  refine g_aload_n cx dX4_excess_0 rfl ?_
  refine g_callV (ws' := [(hx, .inr (4, [.ref hp, .ref hg, .ref hh, .ref hsl, .ref hsv, .ref htx])), (hg, .inr (2, [.ref gv, .ref ge, .long (pM w rn t f), .int (pG w rn t f)])), (gv, .inl (E.2.1 0, 64, .inl (pV w rn t f))), (ge, .inl (E.2.1 0, 64, .inl (pE w rn t f))), (hp, .inr (3, [.ref ap, .int (nI rn), .int t, .int (gB w)])), (ap, .inl (E.2.1 0, 64, .inl f))]) (As := []) (rest := []) (n := 0) (T := TX4) (N := 6) (ci := 4) cx (c_X4_paint l E hx hp hg hh hsl hsv htx gv ge fv fe mk lo ap f rn t w (by omega)) gX4_excess_X4_paint rfl (by decide +kernel) rfl rfl ⟨Nat.le_of_ble_eq_true rfl, Nat.le_of_ble_eq_true rfl⟩ ⟨Nat.zero_le _, Nat.zero_le _⟩ [0, 1, 2, 3, 4, 5] 0 rfl rfl (by decide) rfl rfl rfl rfl (Nat.le_of_ble_eq_true rfl) dX4_excess_1 ?_
  refine g_aload_n cx dX4_excess_4 rfl ?_
  refine g_get (C := RX4) (T := TX4) (N := 6) (ci := 4) cx hiX4 0 1 (by decide) rfl (by decide +kernel) rfl rfl dX4_excess_5 ?_
  refine g_get (C := RX2) (T := TX2) (N := 4) (ci := 2) cx hiX2 1 2 (by decide) rfl (by decide +kernel) rfl rfl dX4_excess_8 ?_
  refine g_callS (ws' := [(hx, .inr (4, [.ref hp, .ref hg, .ref hh, .ref hsl, .ref hsv, .ref htx])), (hg, .inr (2, [.ref gv, .ref ge, .long (pM w rn t f), .int (pG w rn t f)])), (gv, .inl (E.2.1 0, 64, .inl (pV w rn t f))), (ge, .inl (E.2.1 0, 64, .inl (pE w rn t f))), (hp, .inr (3, [.ref ap, .int (nI rn), .int t, .int (gB w)])), (ap, .inl (E.2.1 0, 64, .inl f))]) (As := [.long (pM w rn t f)]) (rest := []) (n := 1) cx (c_J13_bitCount_95d88 l E (pM w rn t f) ) gX4_excess_J13_bitCount_95d88 rfl (by decide +kernel) rfl rfl ⟨Nat.le_of_ble_eq_true rfl, Nat.le_of_ble_eq_true rfl⟩ ⟨Nat.zero_le _, Nat.zero_le _⟩ [] (by decide) rfl rfl rfl rfl (Nat.le_of_ble_eq_true rfl) dX4_excess_11 ?_
  refine g_i2d cx dX4_excess_14 ?_
  refine g_ldc2d (v := 4634204016564240384) cx dX4_excess_15 (by decide +kernel) ?_
  refine g_ddiv cx dX4_excess_18 hd1 ?_
  refine g_dstore_n (lv' := [(1, .double (FP.ddiv (FP.i2d (bcI (pM w rn t f))) 4634204016564240384)), (0, .ref hx)]) cx dX4_excess_19 rfl (by decide) rfl ?_
  refine g_dload_n cx dX4_excess_20 rfl ?_
  refine g_aload_n cx dX4_excess_21 rfl ?_
  refine g_get (C := RX4) (T := TX4) (N := 6) (ci := 4) cx hiX4 0 0 (by decide) rfl (by decide +kernel) rfl rfl dX4_excess_22 ?_
  refine g_callV (ws' := [(hx, .inr (4, [.ref hp, .ref hg, .ref hh, .ref hsl, .ref hsv, .ref htx])), (hg, .inr (2, [.ref gv, .ref ge, .long (pM w rn t f), .int (pG w rn t f)])), (gv, .inl (E.2.1 0, 64, .inl (pV w rn t f))), (ge, .inl (E.2.1 0, 64, .inl (pE w rn t f))), (hp, .inr (3, [.ref ap, .int (nI rn), .int t, .int (gB w)])), (ap, .inl (E.2.1 0, 64, .inl f))]) (As := []) (rest := [.double (FP.ddiv (FP.i2d (bcI (pM w rn t f))) 4634204016564240384)]) (n := 0) (T := TX3) (N := 4) (ci := 3) cx (c_X3_sumOfGreys l E hp ap f (nI rn) t w ) gX4_excess_X3_sumOfGreys rfl (by decide +kernel) rfl rfl ⟨Nat.le_of_ble_eq_true rfl, Nat.le_of_ble_eq_true rfl⟩ ⟨Nat.zero_le _, Nat.zero_le _⟩ [4, 5] 4 rfl rfl (by decide) rfl rfl rfl rfl (Nat.le_of_ble_eq_true rfl) dX4_excess_25 ?_
  refine g_i2d cx dX4_excess_28 ?_
  refine g_ldc2d (v := 4670197629211115520) cx dX4_excess_29 (by decide +kernel) ?_
  refine g_ddiv cx dX4_excess_32 hd2 ?_
  refine g_dsub cx dX4_excess_33 hd3 ?_
  exact g_dretE cx dX4_excess_34 (rfl) (rfl)
