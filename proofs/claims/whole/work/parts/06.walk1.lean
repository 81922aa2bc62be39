set_option maxRecDepth 100000 in
set_option maxHeartbeats 4000000 in
theorem c_X4_isCell (l : Launch) (E : gEnv) (v : Int32)  : gM l yX4_isCell wsX4_isCell ({ frames := 0, cells := 0, slots := 0, locals := 0 } : Room) E [.int v] [] [] (some (.int (gB (bR v 0 63)))) := by
  refine gM.ofG (cc := cX4_isCell) (nL := 1) (ret := (some .boolean)) (own := RX4) [(0, .int v)] (by decide) rfl rfl (Nat.le_of_ble_eq_true rfl) rfl rfl ?_
  intro p e s m below meth c A cx
  refine g_iload_n cx dX4_isCell_0 rfl ?_
  refine g_if_lt (tgt := 14) cx dX4_isCell_1 (by decide) (fun z1 => ?_) (fun z1 => ?_)
  ·
    have z1 := gi0_lt z1
    refine g_iconst cx dX4_isCell_14 kc_i0 ?_
    exact g_zretE cx (by decide +kernel) dX4_isCell_15 (rfl) (by first | exact gB_of (bR_t.mpr (by omega)) | exact gB_off (bR_f.mpr (by omega)))
  ·
    have z1 := gi0_nlt z1
    refine g_iload_n cx dX4_isCell_4 rfl ?_
    refine g_bipush cx dX4_isCell_5 kc_b64 ?_
    refine g_icmp_ge (tgt := 14) cx dX4_isCell_7 (by decide) (fun z2 => ?_) (fun z2 => ?_)
    ·
      have z2 := gj_le (b := 64) (by omega) z2
      refine g_iconst cx dX4_isCell_14 kc_i0 ?_
      exact g_zretE cx (by decide +kernel) dX4_isCell_15 (rfl) (by first | exact gB_of (bR_t.mpr (by omega)) | exact gB_off (bR_f.mpr (by omega)))
    ·
      have z2 := gj_nle (b := 64) (by omega) z2
      refine g_iconst cx dX4_isCell_10 kc_i1 ?_
      refine g_goto (tgt := 15) cx dX4_isCell_11 (by decide) ?_
      exact g_zretE cx (by decide +kernel) dX4_isCell_15 (rfl) (by first | exact gB_of (bR_t.mpr (by omega)) | exact gB_off (bR_f.mpr (by omega)))
set_option maxRecDepth 100000 in
set_option maxHeartbeats 4000000 in
theorem c_X4_isGrey (l : Launch) (E : gEnv) (v : Int32)  : gM l yX4_isGrey wsX4_isGrey ({ frames := 0, cells := 0, slots := 0, locals := 0 } : Room) E [.int v] [] [] (some (.int (gB (bR v 0 255)))) := by
  refine gM.ofG (cc := cX4_isGrey) (nL := 1) (ret := (some .boolean)) (own := RX4) [(0, .int v)] (by decide) rfl rfl (Nat.le_of_ble_eq_true rfl) rfl rfl ?_
  intro p e s m below meth c A cx
  refine g_iload_n cx dX4_isGrey_0 rfl ?_
  refine g_if_lt (tgt := 15) cx dX4_isGrey_1 (by decide) (fun z1 => ?_) (fun z1 => ?_)
  ·
    have z1 := gi0_lt z1
    refine g_iconst cx dX4_isGrey_15 kc_i0 ?_
    exact g_zretE cx (by decide +kernel) dX4_isGrey_16 (rfl) (by first | exact gB_of (bR_t.mpr (by omega)) | exact gB_off (bR_f.mpr (by omega)))
  ·
    have z1 := gi0_nlt z1
    refine g_iload_n cx dX4_isGrey_4 rfl ?_
    refine g_sipush cx dX4_isGrey_5 kc_s255 ?_
    refine g_icmp_gt (tgt := 15) cx dX4_isGrey_8 (by decide) (fun z2 => ?_) (fun z2 => ?_)
    ·
      have z2 := gj_lt (b := 255) (by omega) z2
      refine g_iconst cx dX4_isGrey_15 kc_i0 ?_
      exact g_zretE cx (by decide +kernel) dX4_isGrey_16 (rfl) (by first | exact gB_of (bR_t.mpr (by omega)) | exact gB_off (bR_f.mpr (by omega)))
    ·
      have z2 := gj_nlt (b := 255) (by omega) z2
      refine g_iconst cx dX4_isGrey_11 kc_i1 ?_
      refine g_goto (tgt := 16) cx dX4_isGrey_12 (by decide) ?_
      exact g_zretE cx (by decide +kernel) dX4_isGrey_16 (rfl) (by first | exact gB_of (bR_t.mpr (by omega)) | exact gB_off (bR_f.mpr (by omega)))
set_option maxRecDepth 100000 in
set_option maxHeartbeats 4000000 in
theorem c_X4_isAmount (l : Launch) (E : gEnv) (v : Int32)  : gM l yX4_isAmount wsX4_isAmount ({ frames := 0, cells := 0, slots := 0, locals := 0 } : Room) E [.int v] [] [] (some (.int (gB (bR v 1 255)))) := by
  refine gM.ofG (cc := cX4_isAmount) (nL := 1) (ret := (some .boolean)) (own := RX4) [(0, .int v)] (by decide) rfl rfl (Nat.le_of_ble_eq_true rfl) rfl rfl ?_
  intro p e s m below meth c A cx
  refine g_iload_n cx dX4_isAmount_0 rfl ?_
  refine g_iconst cx dX4_isAmount_1 kc_i1 ?_
  refine g_icmp_lt (tgt := 16) cx dX4_isAmount_2 (by decide) (fun z1 => ?_) (fun z1 => ?_)
  ·
    have z1 := gi_lt (b := 1) (by omega) z1
    refine g_iconst cx dX4_isAmount_16 kc_i0 ?_
    exact g_zretE cx (by decide +kernel) dX4_isAmount_17 (rfl) (by first | exact gB_of (bR_t.mpr (by omega)) | exact gB_off (bR_f.mpr (by omega)))
  ·
    have z1 := gi_nlt (b := 1) (by omega) z1
    refine g_iload_n cx dX4_isAmount_5 rfl ?_
    refine g_sipush cx dX4_isAmount_6 kc_s255 ?_
    refine g_icmp_gt (tgt := 16) cx dX4_isAmount_9 (by decide) (fun z2 => ?_) (fun z2 => ?_)
    ·
      have z2 := gj_lt (b := 255) (by omega) z2
      refine g_iconst cx dX4_isAmount_16 kc_i0 ?_
      exact g_zretE cx (by decide +kernel) dX4_isAmount_17 (rfl) (by first | exact gB_of (bR_t.mpr (by omega)) | exact gB_off (bR_f.mpr (by omega)))
    ·
      have z2 := gj_nlt (b := 255) (by omega) z2
      refine g_iconst cx dX4_isAmount_12 kc_i1 ?_
      refine g_goto (tgt := 17) cx dX4_isAmount_13 (by decide) ?_
      exact g_zretE cx (by decide +kernel) dX4_isAmount_17 (rfl) (by first | exact gB_of (bR_t.mpr (by omega)) | exact gB_off (bR_f.mpr (by omega)))
set_option maxRecDepth 100000 in
set_option maxHeartbeats 4000000 in
theorem c_X4_isRule (l : Launch) (E : gEnv) (v : Int32)  : gM l yX4_isRule wsX4_isRule ({ frames := 0, cells := 0, slots := 0, locals := 0 } : Room) E [.int v] [] [] (some (.int (gB (bR v 0 3)))) := by
  refine gM.ofG (cc := cX4_isRule) (nL := 1) (ret := (some .boolean)) (own := RX4) [(0, .int v)] (by decide) rfl rfl (Nat.le_of_ble_eq_true rfl) rfl rfl ?_
  intro p e s m below meth c A cx
  refine g_iload_n cx dX4_isRule_0 rfl ?_
  refine g_if_lt (tgt := 13) cx dX4_isRule_1 (by decide) (fun z1 => ?_) (fun z1 => ?_)
  ·
    have z1 := gi0_lt z1
    refine g_iconst cx dX4_isRule_13 kc_i0 ?_
    exact g_zretE cx (by decide +kernel) dX4_isRule_14 (rfl) (by first | exact gB_of (bR_t.mpr (by omega)) | exact gB_off (bR_f.mpr (by omega)))
  ·
    have z1 := gi0_nlt z1
    refine g_iload_n cx dX4_isRule_4 rfl ?_
    refine g_iconst cx dX4_isRule_5 kc_i4 ?_
    refine g_icmp_ge (tgt := 13) cx dX4_isRule_6 (by decide) (fun z2 => ?_) (fun z2 => ?_)
    ·
      have z2 := gj_le (b := 4) (by omega) z2
      refine g_iconst cx dX4_isRule_13 kc_i0 ?_
      exact g_zretE cx (by decide +kernel) dX4_isRule_14 (rfl) (by first | exact gB_of (bR_t.mpr (by omega)) | exact gB_off (bR_f.mpr (by omega)))
    ·
      have z2 := gj_nle (b := 4) (by omega) z2
      refine g_iconst cx dX4_isRule_9 kc_i1 ?_
      refine g_goto (tgt := 14) cx dX4_isRule_10 (by decide) ?_
      exact g_zretE cx (by decide +kernel) dX4_isRule_14 (rfl) (by first | exact gB_of (bR_t.mpr (by omega)) | exact gB_off (bR_f.mpr (by omega)))
set_option maxRecDepth 100000 in
set_option maxHeartbeats 4000000 in
theorem c_X4_isLengthOfSide (l : Launch) (E : gEnv) (v : Int32)  : gM l yX4_isLengthOfSide wsX4_isLengthOfSide ({ frames := 0, cells := 0, slots := 0, locals := 0 } : Room) E [.int v] [] [] (some (.int (gB (bR v 1 8)))) := by
  refine gM.ofG (cc := cX4_isLengthOfSide) (nL := 1) (ret := (some .boolean)) (own := RX4) [(0, .int v)] (by decide) rfl rfl (Nat.le_of_ble_eq_true rfl) rfl rfl ?_
  intro p e s m below meth c A cx
  refine g_iload_n cx dX4_isLengthOfSide_0 rfl ?_
  refine g_iconst cx dX4_isLengthOfSide_1 kc_i1 ?_
  refine g_icmp_lt (tgt := 15) cx dX4_isLengthOfSide_2 (by decide) (fun z1 => ?_) (fun z1 => ?_)
  ·
    have z1 := gi_lt (b := 1) (by omega) z1
    refine g_iconst cx dX4_isLengthOfSide_15 kc_i0 ?_
    exact g_zretE cx (by decide +kernel) dX4_isLengthOfSide_16 (rfl) (by first | exact gB_of (bR_t.mpr (by omega)) | exact gB_off (bR_f.mpr (by omega)))
  ·
    have z1 := gi_nlt (b := 1) (by omega) z1
    refine g_iload_n cx dX4_isLengthOfSide_5 rfl ?_
    refine g_bipush cx dX4_isLengthOfSide_6 kc_b8 ?_
    refine g_icmp_gt (tgt := 15) cx dX4_isLengthOfSide_8 (by decide) (fun z2 => ?_) (fun z2 => ?_)
    ·
      have z2 := gj_lt (b := 8) (by omega) z2
      refine g_iconst cx dX4_isLengthOfSide_15 kc_i0 ?_
      exact g_zretE cx (by decide +kernel) dX4_isLengthOfSide_16 (rfl) (by first | exact gB_of (bR_t.mpr (by omega)) | exact gB_off (bR_f.mpr (by omega)))
    ·
      have z2 := gj_nlt (b := 8) (by omega) z2
      refine g_iconst cx dX4_isLengthOfSide_11 kc_i1 ?_
      refine g_goto (tgt := 16) cx dX4_isLengthOfSide_12 (by decide) ?_
      exact g_zretE cx (by decide +kernel) dX4_isLengthOfSide_16 (rfl) (by first | exact gB_of (bR_t.mpr (by omega)) | exact gB_off (bR_f.mpr (by omega)))
set_option maxRecDepth 100000 in
set_option maxHeartbeats 4000000 in
theorem c_X4_isSlot (l : Launch) (E : gEnv) (v : Int32)  : gM l yX4_isSlot wsX4_isSlot ({ frames := 0, cells := 0, slots := 0, locals := 0 } : Room) E [.int v] [] [] (some (.int (gB (bR v 0 1)))) := by
  refine gM.ofG (cc := cX4_isSlot) (nL := 1) (ret := (some .boolean)) (own := RX4) [(0, .int v)] (by decide) rfl rfl (Nat.le_of_ble_eq_true rfl) rfl rfl ?_
  intro p e s m below meth c A cx
  refine g_iload_n cx dX4_isSlot_0 rfl ?_
  refine g_if_lt (tgt := 13) cx dX4_isSlot_1 (by decide) (fun z1 => ?_) (fun z1 => ?_)
  ·
    have z1 := gi0_lt z1
    refine g_iconst cx dX4_isSlot_13 kc_i0 ?_
    exact g_zretE cx (by decide +kernel) dX4_isSlot_14 (rfl) (by first | exact gB_of (bR_t.mpr (by omega)) | exact gB_off (bR_f.mpr (by omega)))
  ·
    have z1 := gi0_nlt z1
    refine g_iload_n cx dX4_isSlot_4 rfl ?_
    refine g_iconst cx dX4_isSlot_5 kc_i2 ?_
    refine g_icmp_ge (tgt := 13) cx dX4_isSlot_6 (by decide) (fun z2 => ?_) (fun z2 => ?_)
    ·
      have z2 := gj_le (b := 2) (by omega) z2
      refine g_iconst cx dX4_isSlot_13 kc_i0 ?_
      exact g_zretE cx (by decide +kernel) dX4_isSlot_14 (rfl) (by first | exact gB_of (bR_t.mpr (by omega)) | exact gB_off (bR_f.mpr (by omega)))
    ·
      have z2 := gj_nle (b := 2) (by omega) z2
      refine g_iconst cx dX4_isSlot_9 kc_i1 ?_
      refine g_goto (tgt := 14) cx dX4_isSlot_10 (by decide) ?_
      exact g_zretE cx (by decide +kernel) dX4_isSlot_14 (rfl) (by first | exact gB_of (bR_t.mpr (by omega)) | exact gB_off (bR_f.mpr (by omega)))
set_option maxRecDepth 100000 in
set_option maxHeartbeats 4000000 in
theorem c_X0_isDigit (l : Launch) (E : gEnv) (v : Int32)  : gM l yX0_isDigit wsX0_isDigit ({ frames := 0, cells := 0, slots := 0, locals := 0 } : Room) E [.int v] [] [] (some (.int (gB (bR v 48 57)))) := by
  refine gM.ofG (cc := cX0_isDigit) (nL := 1) (ret := (some .boolean)) (own := RX0) [(0, .int v)] (by decide) rfl rfl (Nat.le_of_ble_eq_true rfl) rfl rfl ?_
  intro p e s m below meth c A cx
  refine g_iload_n cx dX0_isDigit_0 rfl ?_
  refine g_bipush cx dX0_isDigit_1 kc_b48 ?_
  refine g_icmp_lt (tgt := 16) cx dX0_isDigit_3 (by decide) (fun z1 => ?_) (fun z1 => ?_)
  ·
    have z1 := gi_lt (b := 48) (by omega) z1
    refine g_iconst cx dX0_isDigit_16 kc_i0 ?_
    exact g_zretE cx (by decide +kernel) dX0_isDigit_17 (rfl) (by first | exact gB_of (bR_t.mpr (by omega)) | exact gB_off (bR_f.mpr (by omega)))
  ·
    have z1 := gi_nlt (b := 48) (by omega) z1
    refine g_iload_n cx dX0_isDigit_6 rfl ?_
    refine g_bipush cx dX0_isDigit_7 kc_b57 ?_
    refine g_icmp_gt (tgt := 16) cx dX0_isDigit_9 (by decide) (fun z2 => ?_) (fun z2 => ?_)
    ·
      have z2 := gj_lt (b := 57) (by omega) z2
      refine g_iconst cx dX0_isDigit_16 kc_i0 ?_
      exact g_zretE cx (by decide +kernel) dX0_isDigit_17 (rfl) (by first | exact gB_of (bR_t.mpr (by omega)) | exact gB_off (bR_f.mpr (by omega)))
    ·
      have z2 := gj_nlt (b := 57) (by omega) z2
      refine g_iconst cx dX0_isDigit_12 kc_i1 ?_
      refine g_goto (tgt := 17) cx dX0_isDigit_13 (by decide) ?_
      exact g_zretE cx (by decide +kernel) dX0_isDigit_17 (rfl) (by first | exact gB_of (bR_t.mpr (by omega)) | exact gB_off (bR_f.mpr (by omega)))
set_option maxRecDepth 100000 in
set_option maxHeartbeats 4000000 in
theorem c_X3_sumOfGreys (l : Launch) (E : gEnv) (h : Nat) (a : Nat) (f : Nat → Int32) (r : Int32) (t : Int32) (w : Bool)  : gM l yX3_sumOfGreys wsX3_sumOfGreys ({ frames := 0, cells := 0, slots := 0, locals := 0 } : Room) E [.ref h] [(h, .inr (3, [.ref a, .int r, .int t, .int (gB w)])), (a, .inl (E.2.1 0, 64, .inl f))] [(h, .inr (3, [.ref a, .int r, .int t, .int (gB w)])), (a, .inl (E.2.1 0, 64, .inl f))] (some (.int (isum f 64))) := by
  refine gM.ofG (cc := cX3_sumOfGreys) (nL := 3) (ret := (some .int)) (own := RX3) [(0, .ref h)] (by decide) rfl rfl (Nat.le_of_ble_eq_true rfl) rfl rfl ?_
  intro p e s m below meth c A cx
  have hiX3 : ∀ w ∈ u_ws RX3 TX3 4, w ∈ wsX3_sumOfGreys := by decide +kernel
  refine g_iconst cx dX3_sumOfGreys_0 kc_i0 ?_
  refine g_istore_n (lv' := [(1, .int (nI 0)), (0, .ref h)]) cx dX3_sumOfGreys_1 rfl (by decide) rfl ?_
  refine g_iconst cx dX3_sumOfGreys_2 kc_i0 ?_
  refine g_istore_n (lv' := [(2, .int (nI 0)), (1, .int (nI 0)), (0, .ref h)]) cx dX3_sumOfGreys_3 rfl (by decide) rfl ?_
  have L4 : ∀ (n_ : Nat) (i : Nat) (x : Int32), 64 - i < n_ → x = isum f i → i ≤ 64 → gG p l e ({ frames := 0, cells := 0, slots := 0, locals := 0 } : Room) s m ([.ref h] : List Value).toArray below meth c 3 E A (MQ below (gQ E [(h, .inr (3, [.ref a, .int r, .int t, .int (gB w)])), (a, .inl (E.2.1 0, 64, .inl f))] (some (.int (isum f 64))) A) ([.ref h] : List Value).toArray s 0 0 A) 0 0 [(h, .inr (3, [.ref a, .int r, .int t, .int (gB w)])), (a, .inl (E.2.1 0, 64, .inl f))] [(0, .ref h), (1, .int x), (2, .int (nI i))] [] 4 := by
    intro n_
    induction n_ with
    | zero => intro i x hm_; exact absurd hm_ (Nat.not_lt_zero _)
    | succ n_ ih_L4 =>
      intro i x hm_ e_x hi
      subst e_x
      refine g_iload_n cx dX3_sumOfGreys_4 rfl ?_
      refine g_bipush cx dX3_sumOfGreys_5 kc_b64 ?_
      refine g_icmp_ge (tgt := 25) cx dX3_sumOfGreys_7 (by decide) (fun z1 => ?_) (fun z1 => ?_)
      ·
        have z1 := gn_le (a := 64) (b := i) (by omega) (by omega) z1
        obtain rfl : i = 64 := by omega
        refine g_iload_n cx dX3_sumOfGreys_25 rfl ?_
        exact g_iretE cx dX3_sumOfGreys_26 (rfl) (rfl)
      ·
        have z1 := gn_nle (a := 64) (b := i) (by omega) (by omega) z1
        refine g_iload_n cx dX3_sumOfGreys_10 rfl ?_
        refine g_aload_n cx dX3_sumOfGreys_11 rfl ?_
        refine g_get (C := RX3) (T := TX3) (N := 4) (ci := 3) cx hiX3 0 0 (by decide) rfl (by decide +kernel) rfl rfl dX3_sumOfGreys_12 ?_
        refine g_iload_n cx dX3_sumOfGreys_15 rfl ?_
        refine g_iald cx 1 rfl rfl (vp_in_nI (by omega) (by omega)) (congrArg _ (nI_clamp (by omega))) dX3_sumOfGreys_16 ?_
        refine g_iadd cx dX3_sumOfGreys_17 ?_
        refine g_istore_n (lv' := [(1, .int ((isum f i) + (f i))), (0, .ref h), (2, .int (nI i))]) cx dX3_sumOfGreys_18 rfl (by decide) rfl ?_
        refine g_iinc (lv' := [(2, .int (nI (i + 1))), (1, .int ((isum f i) + (f i))), (0, .ref h)]) (k := 2) cx dX3_sumOfGreys_19 rfl (gn_inc1 i) (by decide) rfl ?_
        refine g_goto (tgt := 4) cx dX3_sumOfGreys_22 (by decide) ?_
        refine g_lv [2, 1, 0] rfl ?_
        exact ih_L4 (i + 1) ((isum f i) + (f i)) (by omega) rfl (by omega)
  refine g_lv [2, 1, 0] rfl ?_
  exact L4 (64 - 0 + 1) 0 (nI 0) (by omega) rfl (by omega)
