set_option maxRecDepth 100000 in
set_option maxHeartbeats 4000000 in
theorem c_X4_isCell (l : Launch) (E : gEnv) (v : Int32)  : gM l yX4_isCell wsX4_isCell ({ frames := 0, cells := 0, slots := 0, locals := 0 } : Room) E [.int v] [] [] (some (.int (gB (bR v 0 63)))) := by
  refine gM.ofG (cc := cX4_isCell) (nL := 1) (ret := (some .boolean)) (own := RX4) [(0, .int v)] (by decide) rfl rfl (Nat.le_of_ble_eq_true rfl) rfl rfl ?_
  intro pX eX sX mX bX tX cX A cx
  refine g_iload_n cx dX4_isCell_0 rfl ?_
  refine g_if_lt (tgt := 14) cx dX4_isCell_1 (by decide) (fun z1 => ?_) (fun z1 => ?_)
  ·
    have z1 := gi0_lt z1
    refine g_iconst cx dX4_isCell_14 kc_i0 ?_
    exact g_zretE cx (by decide +kernel) dX4_isCell_15 (rfl) (by first | exact gB_of (bR_t.mpr (by omega)) | exact gB_off (bR_f.mpr (by omega)))
  ·
    have z1 := gi0_nlt z1
    refine g_iload_n cx dX4_isCell_4 rfl ?_
    refine g_bipush cx dX4_isCell_5 kc_b64 ?_
    refine g_icmp_ge (tgt := 14) cx dX4_isCell_7 (by decide) (fun z2 => ?_) (fun z2 => ?_)
    ·
      have z2 := gj_le (b := 64) (by omega) z2
      refine g_iconst cx dX4_isCell_14 kc_i0 ?_
      exact g_zretE cx (by decide +kernel) dX4_isCell_15 (rfl) (by first | exact gB_of (bR_t.mpr (by omega)) | exact gB_off (bR_f.mpr (by omega)))
    ·
      have z2 := gj_nle (b := 64) (by omega) z2
      refine g_iconst cx dX4_isCell_10 kc_i1 ?_
      refine g_goto (tgt := 15) cx dX4_isCell_11 (by decide) ?_
      exact g_zretE cx (by decide +kernel) dX4_isCell_15 (rfl) (by first | exact gB_of (bR_t.mpr (by omega)) | exact gB_off (bR_f.mpr (by omega)))
set_option maxRecDepth 100000 in
set_option maxHeartbeats 4000000 in
theorem c_X4_isGrey (l : Launch) (E : gEnv) (v : Int32)  : gM l yX4_isGrey wsX4_isGrey ({ frames := 0, cells := 0, slots := 0, locals := 0 } : Room) E [.int v] [] [] (some (.int (gB (bR v 0 255)))) := by
  refine gM.ofG (cc := cX4_isGrey) (nL := 1) (ret := (some .boolean)) (own := RX4) [(0, .int v)] (by decide) rfl rfl (Nat.le_of_ble_eq_true rfl) rfl rfl ?_
  intro pX eX sX mX bX tX cX A cx
  refine g_iload_n cx dX4_isGrey_0 rfl ?_
  refine g_if_lt (tgt := 15) cx dX4_isGrey_1 (by decide) (fun z1 => ?_) (fun z1 => ?_)
  ·
    have z1 := gi0_lt z1
    refine g_iconst cx dX4_isGrey_15 kc_i0 ?_
    exact g_zretE cx (by decide +kernel) dX4_isGrey_16 (rfl) (by first | exact gB_of (bR_t.mpr (by omega)) | exact gB_off (bR_f.mpr (by omega)))
  ·
    have z1 := gi0_nlt z1
    refine g_iload_n cx dX4_isGrey_4 rfl ?_
    refine g_sipush cx dX4_isGrey_5 kc_s255 ?_
    refine g_icmp_gt (tgt := 15) cx dX4_isGrey_8 (by decide) (fun z2 => ?_) (fun z2 => ?_)
    ·
      have z2 := gj_lt (b := 255) (by omega) z2
      refine g_iconst cx dX4_isGrey_15 kc_i0 ?_
      exact g_zretE cx (by decide +kernel) dX4_isGrey_16 (rfl) (by first | exact gB_of (bR_t.mpr (by omega)) | exact gB_off (bR_f.mpr (by omega)))
    ·
      have z2 := gj_nlt (b := 255) (by omega) z2
      refine g_iconst cx dX4_isGrey_11 kc_i1 ?_
      refine g_goto (tgt := 16) cx dX4_isGrey_12 (by decide) ?_
      exact g_zretE cx (by decide +kernel) dX4_isGrey_16 (rfl) (by first | exact gB_of (bR_t.mpr (by omega)) | exact gB_off (bR_f.mpr (by omega)))
set_option maxRecDepth 100000 in
set_option maxHeartbeats 4000000 in
theorem c_X4_isAmount (l : Launch) (E : gEnv) (v : Int32)  : gM l yX4_isAmount wsX4_isAmount ({ frames := 0, cells := 0, slots := 0, locals := 0 } : Room) E [.int v] [] [] (some (.int (gB (bR v 1 255)))) := by
  refine gM.ofG (cc := cX4_isAmount) (nL := 1) (ret := (some .boolean)) (own := RX4) [(0, .int v)] (by decide) rfl rfl (Nat.le_of_ble_eq_true rfl) rfl rfl ?_
  intro pX eX sX mX bX tX cX A cx
  refine g_iload_n cx dX4_isAmount_0 rfl ?_
  refine g_iconst cx dX4_isAmount_1 kc_i1 ?_
  refine g_icmp_lt (tgt := 16) cx dX4_isAmount_2 (by decide) (fun z1 => ?_) (fun z1 => ?_)
  ·
    have z1 := gi_lt (b := 1) (by omega) z1
    refine g_iconst cx dX4_isAmount_16 kc_i0 ?_
    exact g_zretE cx (by decide +kernel) dX4_isAmount_17 (rfl) (by first | exact gB_of (bR_t.mpr (by omega)) | exact gB_off (bR_f.mpr (by omega)))
  ·
    have z1 := gi_nlt (b := 1) (by omega) z1
    refine g_iload_n cx dX4_isAmount_5 rfl ?_
    refine g_sipush cx dX4_isAmount_6 kc_s255 ?_
    refine g_icmp_gt (tgt := 16) cx dX4_isAmount_9 (by decide) (fun z2 => ?_) (fun z2 => ?_)
    ·
      have z2 := gj_lt (b := 255) (by omega) z2
      refine g_iconst cx dX4_isAmount_16 kc_i0 ?_
      exact g_zretE cx (by decide +kernel) dX4_isAmount_17 (rfl) (by first | exact gB_of (bR_t.mpr (by omega)) | exact gB_off (bR_f.mpr (by omega)))
    ·
      have z2 := gj_nlt (b := 255) (by omega) z2
      refine g_iconst cx dX4_isAmount_12 kc_i1 ?_
      refine g_goto (tgt := 17) cx dX4_isAmount_13 (by decide) ?_
      exact g_zretE cx (by decide +kernel) dX4_isAmount_17 (rfl) (by first | exact gB_of (bR_t.mpr (by omega)) | exact gB_off (bR_f.mpr (by omega)))
set_option maxRecDepth 100000 in
set_option maxHeartbeats 4000000 in
theorem c_X4_isRule (l : Launch) (E : gEnv) (v : Int32)  : gM l yX4_isRule wsX4_isRule ({ frames := 0, cells := 0, slots := 0, locals := 0 } : Room) E [.int v] [] [] (some (.int (gB (bR v 0 3)))) := by
  refine gM.ofG (cc := cX4_isRule) (nL := 1) (ret := (some .boolean)) (own := RX4) [(0, .int v)] (by decide) rfl rfl (Nat.le_of_ble_eq_true rfl) rfl rfl ?_
  intro pX eX sX mX bX tX cX A cx
  refine g_iload_n cx dX4_isRule_0 rfl ?_
  refine g_if_lt (tgt := 13) cx dX4_isRule_1 (by decide) (fun z1 => ?_) (fun z1 => ?_)
  ·
    have z1 := gi0_lt z1
    refine g_iconst cx dX4_isRule_13 kc_i0 ?_
    exact g_zretE cx (by decide +kernel) dX4_isRule_14 (rfl) (by first | exact gB_of (bR_t.mpr (by omega)) | exact gB_off (bR_f.mpr (by omega)))
  ·
    have z1 := gi0_nlt z1
    refine g_iload_n cx dX4_isRule_4 rfl ?_
    refine g_iconst cx dX4_isRule_5 kc_i4 ?_
    refine g_icmp_ge (tgt := 13) cx dX4_isRule_6 (by decide) (fun z2 => ?_) (fun z2 => ?_)
    ·
      have z2 := gj_le (b := 4) (by omega) z2
      refine g_iconst cx dX4_isRule_13 kc_i0 ?_
      exact g_zretE cx (by decide +kernel) dX4_isRule_14 (rfl) (by first | exact gB_of (bR_t.mpr (by omega)) | exact gB_off (bR_f.mpr (by omega)))
    ·
      have z2 := gj_nle (b := 4) (by omega) z2
      refine g_iconst cx dX4_isRule_9 kc_i1 ?_
      refine g_goto (tgt := 14) cx dX4_isRule_10 (by decide) ?_
      exact g_zretE cx (by decide +kernel) dX4_isRule_14 (rfl) (by first | exact gB_of (bR_t.mpr (by omega)) | exact gB_off (bR_f.mpr (by omega)))
set_option maxRecDepth 100000 in
set_option maxHeartbeats 4000000 in
theorem c_X4_isLengthOfSide (l : Launch) (E : gEnv) (v : Int32)  : gM l yX4_isLengthOfSide wsX4_isLengthOfSide ({ frames := 0, cells := 0, slots := 0, locals := 0 } : Room) E [.int v] [] [] (some (.int (gB (bR v 1 8)))) := by
  refine gM.ofG (cc := cX4_isLengthOfSide) (nL := 1) (ret := (some .boolean)) (own := RX4) [(0, .int v)] (by decide) rfl rfl (Nat.le_of_ble_eq_true rfl) rfl rfl ?_
  intro pX eX sX mX bX tX cX A cx
  refine g_iload_n cx dX4_isLengthOfSide_0 rfl ?_
  refine g_iconst cx dX4_isLengthOfSide_1 kc_i1 ?_
  refine g_icmp_lt (tgt := 15) cx dX4_isLengthOfSide_2 (by decide) (fun z1 => ?_) (fun z1 => ?_)
  ·
    have z1 := gi_lt (b := 1) (by omega) z1
    refine g_iconst cx dX4_isLengthOfSide_15 kc_i0 ?_
    exact g_zretE cx (by decide +kernel) dX4_isLengthOfSide_16 (rfl) (by first | exact gB_of (bR_t.mpr (by omega)) | exact gB_off (bR_f.mpr (by omega)))
  ·
    have z1 := gi_nlt (b := 1) (by omega) z1
    refine g_iload_n cx dX4_isLengthOfSide_5 rfl ?_
    refine g_bipush cx dX4_isLengthOfSide_6 kc_b8 ?_
    refine g_icmp_gt (tgt := 15) cx dX4_isLengthOfSide_8 (by decide) (fun z2 => ?_) (fun z2 => ?_)
    ·
      have z2 := gj_lt (b := 8) (by omega) z2
      refine g_iconst cx dX4_isLengthOfSide_15 kc_i0 ?_
      exact g_zretE cx (by decide +kernel) dX4_isLengthOfSide_16 (rfl) (by first | exact gB_of (bR_t.mpr (by omega)) | exact gB_off (bR_f.mpr (by omega)))
    ·
      have z2 := gj_nlt (b := 8) (by omega) z2
      refine g_iconst cx dX4_isLengthOfSide_11 kc_i1 ?_
      refine g_goto (tgt := 16) cx dX4_isLengthOfSide_12 (by decide) ?_
      exact g_zretE cx (by decide +kernel) dX4_isLengthOfSide_16 (rfl) (by first | exact gB_of (bR_t.mpr (by omega)) | exact gB_off (bR_f.mpr (by omega)))
set_option maxRecDepth 100000 in
set_option maxHeartbeats 4000000 in
theorem c_X4_isSlot (l : Launch) (E : gEnv) (v : Int32)  : gM l yX4_isSlot wsX4_isSlot ({ frames := 0, cells := 0, slots := 0, locals := 0 } : Room) E [.int v] [] [] (some (.int (gB (bR v 0 1)))) := by
  refine gM.ofG (cc := cX4_isSlot) (nL := 1) (ret := (some .boolean)) (own := RX4) [(0, .int v)] (by decide) rfl rfl (Nat.le_of_ble_eq_true rfl) rfl rfl ?_
  intro pX eX sX mX bX tX cX A cx
  refine g_iload_n cx dX4_isSlot_0 rfl ?_
  refine g_if_lt (tgt := 13) cx dX4_isSlot_1 (by decide) (fun z1 => ?_) (fun z1 => ?_)
  ·
    have z1 := gi0_lt z1
    refine g_iconst cx dX4_isSlot_13 kc_i0 ?_
    exact g_zretE cx (by decide +kernel) dX4_isSlot_14 (rfl) (by first | exact gB_of (bR_t.mpr (by omega)) | exact gB_off (bR_f.mpr (by omega)))
  ·
    have z1 := gi0_nlt z1
    refine g_iload_n cx dX4_isSlot_4 rfl ?_
    refine g_iconst cx dX4_isSlot_5 kc_i2 ?_
    refine g_icmp_ge (tgt := 13) cx dX4_isSlot_6 (by decide) (fun z2 => ?_) (fun z2 => ?_)
    ·
      have z2 := gj_le (b := 2) (by omega) z2
      refine g_iconst cx dX4_isSlot_13 kc_i0 ?_
      exact g_zretE cx (by decide +kernel) dX4_isSlot_14 (rfl) (by first | exact gB_of (bR_t.mpr (by omega)) | exact gB_off (bR_f.mpr (by omega)))
    ·
      have z2 := gj_nle (b := 2) (by omega) z2
      refine g_iconst cx dX4_isSlot_9 kc_i1 ?_
      refine g_goto (tgt := 14) cx dX4_isSlot_10 (by decide) ?_
      exact g_zretE cx (by decide +kernel) dX4_isSlot_14 (rfl) (by first | exact gB_of (bR_t.mpr (by omega)) | exact gB_off (bR_f.mpr (by omega)))
set_option maxRecDepth 100000 in
set_option maxHeartbeats 4000000 in
theorem c_X0_isDigit (l : Launch) (E : gEnv) (v : Int32)  : gM l yX0_isDigit wsX0_isDigit ({ frames := 0, cells := 0, slots := 0, locals := 0 } : Room) E [.int v] [] [] (some (.int (gB (bR v 48 57)))) := by
  refine gM.ofG (cc := cX0_isDigit) (nL := 1) (ret := (some .boolean)) (own := RX0) [(0, .int v)] (by decide) rfl rfl (Nat.le_of_ble_eq_true rfl) rfl rfl ?_
  intro pX eX sX mX bX tX cX A cx
  refine g_iload_n cx dX0_isDigit_0 rfl ?_
  refine g_bipush cx dX0_isDigit_1 kc_b48 ?_
  refine g_icmp_lt (tgt := 16) cx dX0_isDigit_3 (by decide) (fun z1 => ?_) (fun z1 => ?_)
  ·
    have z1 := gi_lt (b := 48) (by omega) z1
    refine g_iconst cx dX0_isDigit_16 kc_i0 ?_
    exact g_zretE cx (by decide +kernel) dX0_isDigit_17 (rfl) (by first | exact gB_of (bR_t.mpr (by omega)) | exact gB_off (bR_f.mpr (by omega)))
  ·
    have z1 := gi_nlt (b := 48) (by omega) z1
    refine g_iload_n cx dX0_isDigit_6 rfl ?_
    refine g_bipush cx dX0_isDigit_7 kc_b57 ?_
    refine g_icmp_gt (tgt := 16) cx dX0_isDigit_9 (by decide) (fun z2 => ?_) (fun z2 => ?_)
    ·
      have z2 := gj_lt (b := 57) (by omega) z2
      refine g_iconst cx dX0_isDigit_16 kc_i0 ?_
      exact g_zretE cx (by decide +kernel) dX0_isDigit_17 (rfl) (by first | exact gB_of (bR_t.mpr (by omega)) | exact gB_off (bR_f.mpr (by omega)))
    ·
      have z2 := gj_nlt (b := 57) (by omega) z2
      refine g_iconst cx dX0_isDigit_12 kc_i1 ?_
      refine g_goto (tgt := 17) cx dX0_isDigit_13 (by decide) ?_
      exact g_zretE cx (by decide +kernel) dX0_isDigit_17 (rfl) (by first | exact gB_of (bR_t.mpr (by omega)) | exact gB_off (bR_f.mpr (by omega)))
set_option maxRecDepth 100000 in
set_option maxHeartbeats 4000000 in
theorem c_X4_cellIn (l : Launch) (E : gEnv) (r : Int32) (k : Int32)  : gM l yX4_cellIn wsX4_cellIn ({ frames := 0, cells := 0, slots := 0, locals := 0 } : Room) E [.int r, .int k] [] [] (some (.int (cIn r k))) := by
  refine gM.ofG (cc := cX4_cellIn) (nL := 3) (ret := (some .int)) (own := RX4) [(0, .int r), (1, .int k)] (by decide) rfl rfl (Nat.le_of_ble_eq_true rfl) rfl rfl ?_
  intro pX eX sX mX bX tX cX A cx
  refine g_iload_n cx dX4_cellIn_0 rfl ?_
  refine g_if_lt (tgt := 24) cx dX4_cellIn_1 (by decide) (fun z1 => ?_) (fun z1 => ?_)
  ·
    have z1 := gi0_lt z1
    refine g_iconst cx dX4_cellIn_24 kc_i0 ?_
    refine g_istore_n (lv' := [(2, .int (nI 0)), (0, .int r), (1, .int k)]) cx dX4_cellIn_25 rfl (by decide) rfl ?_
    refine g_iload_n cx dX4_cellIn_26 rfl ?_
    refine g_if_eq (tgt := 39) cx dX4_cellIn_27 (by decide) (fun z2 => ?_) (fun z2 => absurd z2 (by decide +kernel))
    have z2 := gn_eq0 (by omega) z2
    refine g_iconst cx dX4_cellIn_39 kc_im1 ?_
    exact g_iretE cx dX4_cellIn_40 (rfl) (by first | exact (if_pos ⟨bR_t.mpr (by omega), bR_t.mpr (by omega)⟩).symm | exact (if_neg (fun q => by have q1 := bR_t.mp q.1; have q2 := bR_t.mp q.2; omega)).symm)
  ·
    have z1 := gi0_nlt z1
    refine g_iload_n cx dX4_cellIn_4 rfl ?_
    refine g_bipush cx dX4_cellIn_5 kc_b8 ?_
    refine g_icmp_ge (tgt := 24) cx dX4_cellIn_7 (by decide) (fun z3 => ?_) (fun z3 => ?_)
    ·
      have z3 := gj_le (b := 8) (by omega) z3
      refine g_iconst cx dX4_cellIn_24 kc_i0 ?_
      refine g_istore_n (lv' := [(2, .int (nI 0)), (0, .int r), (1, .int k)]) cx dX4_cellIn_25 rfl (by decide) rfl ?_
      refine g_iload_n cx dX4_cellIn_26 rfl ?_
      refine g_if_eq (tgt := 39) cx dX4_cellIn_27 (by decide) (fun z4 => ?_) (fun z4 => absurd z4 (by decide +kernel))
      have z4 := gn_eq0 (by omega) z4
      refine g_iconst cx dX4_cellIn_39 kc_im1 ?_
      exact g_iretE cx dX4_cellIn_40 (rfl) (by first | exact (if_pos ⟨bR_t.mpr (by omega), bR_t.mpr (by omega)⟩).symm | exact (if_neg (fun q => by have q1 := bR_t.mp q.1; have q2 := bR_t.mp q.2; omega)).symm)
    ·
      have z3 := gj_nle (b := 8) (by omega) z3
      refine g_iload_n cx dX4_cellIn_10 rfl ?_
      refine g_if_lt (tgt := 24) cx dX4_cellIn_11 (by decide) (fun z5 => ?_) (fun z5 => ?_)
      ·
        have z5 := gi0_lt z5
        refine g_iconst cx dX4_cellIn_24 kc_i0 ?_
        refine g_istore_n (lv' := [(2, .int (nI 0)), (0, .int r), (1, .int k)]) cx dX4_cellIn_25 rfl (by decide) rfl ?_
        refine g_iload_n cx dX4_cellIn_26 rfl ?_
        refine g_if_eq (tgt := 39) cx dX4_cellIn_27 (by decide) (fun z6 => ?_) (fun z6 => absurd z6 (by decide +kernel))
        have z6 := gn_eq0 (by omega) z6
        refine g_iconst cx dX4_cellIn_39 kc_im1 ?_
        exact g_iretE cx dX4_cellIn_40 (rfl) (by first | exact (if_pos ⟨bR_t.mpr (by omega), bR_t.mpr (by omega)⟩).symm | exact (if_neg (fun q => by have q1 := bR_t.mp q.1; have q2 := bR_t.mp q.2; omega)).symm)
      ·
        have z5 := gi0_nlt z5
        refine g_iload_n cx dX4_cellIn_14 rfl ?_
        refine g_bipush cx dX4_cellIn_15 kc_b8 ?_
        refine g_icmp_ge (tgt := 24) cx dX4_cellIn_17 (by decide) (fun z7 => ?_) (fun z7 => ?_)
        ·
          have z7 := gj_le (b := 8) (by omega) z7
          refine g_iconst cx dX4_cellIn_24 kc_i0 ?_
          refine g_istore_n (lv' := [(2, .int (nI 0)), (0, .int r), (1, .int k)]) cx dX4_cellIn_25 rfl (by decide) rfl ?_
          refine g_iload_n cx dX4_cellIn_26 rfl ?_
          refine g_if_eq (tgt := 39) cx dX4_cellIn_27 (by decide) (fun z8 => ?_) (fun z8 => absurd z8 (by decide +kernel))
          have z8 := gn_eq0 (by omega) z8
          refine g_iconst cx dX4_cellIn_39 kc_im1 ?_
          exact g_iretE cx dX4_cellIn_40 (rfl) (by first | exact (if_pos ⟨bR_t.mpr (by omega), bR_t.mpr (by omega)⟩).symm | exact (if_neg (fun q => by have q1 := bR_t.mp q.1; have q2 := bR_t.mp q.2; omega)).symm)
        ·
          have z7 := gj_nle (b := 8) (by omega) z7
          refine g_iconst cx dX4_cellIn_20 kc_i1 ?_
          refine g_goto (tgt := 25) cx dX4_cellIn_21 (by decide) ?_
          refine g_istore_n (lv' := [(2, .int (nI 1)), (0, .int r), (1, .int k)]) cx dX4_cellIn_25 rfl (by decide) rfl ?_
          refine g_iload_n cx dX4_cellIn_26 rfl ?_
          refine g_if_eq (tgt := 39) cx dX4_cellIn_27 (by decide) (fun z9 => absurd z9 (by decide +kernel)) (fun z9 => ?_)
          have z9 := gn_ne0 z9
          refine g_bipush cx dX4_cellIn_30 kc_b8 ?_
          refine g_iload_n cx dX4_cellIn_32 rfl ?_
          refine g_imul cx dX4_cellIn_33 ?_
          refine g_iload_n cx dX4_cellIn_34 rfl ?_
          refine g_iadd cx dX4_cellIn_35 ?_
          refine g_goto (tgt := 40) cx dX4_cellIn_36 (by decide) ?_
          exact g_iretE cx dX4_cellIn_40 (rfl) (by first | exact (if_pos ⟨bR_t.mpr (by omega), bR_t.mpr (by omega)⟩).symm | exact (if_neg (fun q => by have q1 := bR_t.mp q.1; have q2 := bR_t.mp q.2; omega)).symm)
set_option maxRecDepth 100000 in
set_option maxHeartbeats 4000000 in
theorem c_X4_cellTowards (l : Launch) (E : gEnv) (c : Nat) (j : Nat) (d : Int32) (hc : c < 64) (hj : j < 12) : gM l yX4_cellTowards wsX4_cellTowards ({ frames := 1, cells := 0, slots := 0, locals := 22 } : Room) E [.int (nI c), .int (nI j), .int d] [] [] (some (.int (tI d j c))) := by
  refine gM.ofG (cc := cX4_cellTowards) (nL := 3) (ret := (some .int)) (own := RX4) [(0, .int (nI c)), (1, .int (nI j)), (2, .int d)] (by decide) rfl rfl (Nat.le_of_ble_eq_true rfl) rfl rfl ?_
  intro pX eX sX mX bX tX cX A cx
  refine g_iload_n cx dX4_cellTowards_0 rfl ?_
  refine g_bipush cx dX4_cellTowards_1 kc_b8 ?_
  refine g_idiv cx dX4_cellTowards_3 (by decide) ?_
  refine g_top (pk_div (a := c) (d := 8) (by omega) (by omega) (by omega)) ?_
  refine g_gets cx cx.2.2.2.2.2.1.2.1.2.1 (by decide +kernel) dX4_cellTowards_4 ?_
  refine g_iload_n cx dX4_cellTowards_7 rfl ?_
  refine g_ti cx cx.2.2.2.2.2.1.2.1.2.1 (vp_in_nI (by omega) (by omega)) ((congrArg zD (nI_clamp (by omega))).trans (zD_nat (by omega))) dX4_cellTowards_8 ?_
  refine g_iadd cx dX4_cellTowards_9 ?_
  refine g_top (nI_add (c / 8) (nD j)) ?_
  refine g_iload_n cx dX4_cellTowards_10 rfl ?_
  refine g_bipush cx dX4_cellTowards_11 kc_b8 ?_
  refine g_irem cx dX4_cellTowards_13 (by decide) ?_
  refine g_top (pk_rem (a := c) (d := 8) (by omega) (by omega) (by omega)) ?_
  refine g_gets cx cx.2.2.2.2.2.1.2.1.2.2.1 (by decide +kernel) dX4_cellTowards_14 ?_
  refine g_iload_n cx dX4_cellTowards_17 rfl ?_
  refine g_ti cx cx.2.2.2.2.2.1.2.1.2.2.1 (vp_in_nI (by omega) (by omega)) (congrArg zA (nI_clamp (by omega))) dX4_cellTowards_18 ?_
  refine g_iload_n cx dX4_cellTowards_19 rfl ?_
  refine g_imul cx dX4_cellTowards_20 ?_
  refine g_iadd cx dX4_cellTowards_21 ?_
  refine g_callS (ws' := []) (As := [.int (nI ((c / 8) + (nD j))), .int ((nI (c % 8)) + ((zA j) * d))]) (rest := []) (n := 2) cx (c_X4_cellIn l E (nI ((c / 8) + (nD j))) ((nI (c % 8)) + ((zA j) * d)) ) gX4_cellTowards_X4_cellIn rfl (by decide +kernel) rfl rfl ⟨Nat.le_of_ble_eq_true rfl, Nat.le_of_ble_eq_true rfl⟩ ⟨Nat.zero_le _, Nat.zero_le _⟩ [] (by decide) rfl rfl rfl rfl (Nat.le_of_ble_eq_true rfl) dX4_cellTowards_22 ?_
  exact g_iretE cx dX4_cellTowards_25 (rfl) (rfl)
set_option maxRecDepth 100000 in
set_option maxHeartbeats 4000000 in
theorem c_X4_shareOf (l : Launch) (E : gEnv) (e : Int32) (r : Nat) (j : Nat) (hr : r < 4) (hj : j < 12) : gM l yX4_shareOf wsX4_shareOf ({ frames := 0, cells := 0, slots := 0, locals := 0 } : Room) E [.int e, .int (nI r), .int (nI j)] [] [] (some (.int (sh r j e))) := by
  refine gM.ofG (cc := cX4_shareOf) (nL := 6) (ret := (some .int)) (own := RX4) [(0, .int e), (1, .int (nI r)), (2, .int (nI j))] (by decide) rfl rfl (Nat.le_of_ble_eq_true rfl) rfl rfl ?_
  intro pX eX sX mX bX tX cX A cx
  have hF := nF_f hr
  refine g_gets cx cx.2.2.2.2.2.1.2.1.1 (by decide +kernel) dX4_shareOf_0 ?_
  refine g_iload_n cx dX4_shareOf_3 rfl ?_
  refine g_iconst cx dX4_shareOf_4 kc_i1 ?_
  refine g_iadd cx dX4_shareOf_5 ?_
  refine g_top (nI_add r 1) ?_
  refine g_ti cx cx.2.2.2.2.2.1.2.1.1 (vp_in_nI (by omega) (by omega)) ((congrArg zF (nI_clamp (by omega))).trans (zF_nat (by omega))) dX4_shareOf_6 ?_
  refine g_iconst cx dX4_shareOf_7 kc_i1 ?_
  refine g_isub cx dX4_shareOf_8 ?_
  refine g_top (pk_sub (a := nF (r + 1)) (b := 1) (by omega)) ?_
  refine g_istore_n (lv' := [(3, .int (nI ((nF (r + 1)) - 1))), (0, .int e), (1, .int (nI r)), (2, .int (nI j))]) cx dX4_shareOf_9 rfl (by decide) rfl ?_
  refine g_iload_n cx dX4_shareOf_10 rfl ?_
  refine g_iload_n cx dX4_shareOf_11 rfl ?_
  refine g_icmp_ge (tgt := 26) cx dX4_shareOf_12 (by decide) (fun z1 => ?_) (fun z1 => ?_)
  ·
    have z1 := gn_le (a := (nF (r + 1)) - 1) (b := j) (by omega) (by omega) z1
    refine g_iload_n cx dX4_shareOf_26 rfl ?_
    refine g_istore (lv' := [(4, .int e), (3, .int (nI ((nF (r + 1)) - 1))), (0, .int e), (1, .int (nI r)), (2, .int (nI j))]) cx dX4_shareOf_27 (by decide) rfl ?_
    refine g_gets cx cx.2.2.2.2.2.1.2.1.1 (by decide +kernel) dX4_shareOf_29 ?_
    refine g_iload_n cx dX4_shareOf_32 rfl ?_
    refine g_ti cx cx.2.2.2.2.2.1.2.1.1 (vp_in_nI (by omega) (by omega)) ((congrArg zF (nI_clamp (by omega))).trans (zF_nat (by omega))) dX4_shareOf_33 ?_
    refine g_istore (lv' := [(5, .int (nI (nF r))), (4, .int e), (3, .int (nI ((nF (r + 1)) - 1))), (0, .int e), (1, .int (nI r)), (2, .int (nI j))]) cx dX4_shareOf_34 (by decide) rfl ?_
    have L36 : ∀ (n_ : Nat) (k : Nat) (x : Int32), nF (r + 1) - 1 - nF r - k < n_ → x = lft e (nF r) k → nF r + k ≤ nF (r + 1) - 1 → gG pX l eX ({ frames := 0, cells := 0, slots := 0, locals := 0 } : Room) sX mX ([.int e, .int (nI r), .int (nI j)] : List Value).toArray bX tX cX 6 E A (MQ bX (gQ E [] (some (.int (sh r j e))) A) ([.int e, .int (nI r), .int (nI j)] : List Value).toArray sX 0 0 A) 0 0 [] [(0, .int e), (1, .int (nI r)), (2, .int (nI j)), (3, .int (nI (nF (r + 1) - 1))), (4, .int x), (5, .int (nI (nF r + k)))] [] 36 := by
      intro n_
      induction n_ with
      | zero => intro k x hm_; exact absurd hm_ (Nat.not_lt_zero _)
      | succ n_ ih_L36 =>
        intro k x hm_ e_x hk
        subst e_x
        refine g_iload cx dX4_shareOf_36 rfl ?_
        refine g_iload_n cx dX4_shareOf_38 rfl ?_
        refine g_icmp_ge (tgt := 64) cx dX4_shareOf_39 (by decide) (fun z2 => ?_) (fun z2 => ?_)
        ·
          have z2 := gn_le (a := nF (r + 1) - 1) (b := nF r + k) (by omega) (by omega) z2
          refine g_iload cx dX4_shareOf_64 rfl ?_
          exact g_iretE cx dX4_shareOf_66 (rfl) (by first | (unfold sh; rw [if_pos (by omega)]; done) | (unfold sh; rw [if_neg (by omega), show nF (r + 1) - 1 - nF r = k from by omega]))
        ·
          have z2 := gn_nle (a := nF (r + 1) - 1) (b := nF r + k) (by omega) (by omega) z2
          refine g_iload cx dX4_shareOf_42 rfl ?_
          refine g_iload_n cx dX4_shareOf_44 rfl ?_
          refine g_gets cx cx.2.2.2.2.2.1.2.1.2.2.2 (by decide +kernel) dX4_shareOf_45 ?_
          refine g_iload cx dX4_shareOf_48 rfl ?_
          refine g_ti cx cx.2.2.2.2.2.1.2.1.2.2.2 (vp_in_nI (by omega) (by omega)) (congrArg zW (nI_clamp (by omega))) dX4_shareOf_50 ?_
          refine g_imul cx dX4_shareOf_51 ?_
          refine g_bipush cx dX4_shareOf_52 kc_b16 ?_
          refine g_idiv cx dX4_shareOf_54 (by decide) ?_
          refine g_isub cx dX4_shareOf_55 ?_
          refine g_istore (lv' := [(4, .int ((lft e (nF r) k) - ((e * (zW (nF r + k))) / (nI 16)))), (0, .int e), (1, .int (nI r)), (2, .int (nI j)), (3, .int (nI (nF (r + 1) - 1))), (5, .int (nI (nF r + k)))]) cx dX4_shareOf_56 (by decide) rfl ?_
          refine g_iinc (lv' := [(5, .int (nI (nF r + k + 1))), (4, .int ((lft e (nF r) k) - ((e * (zW (nF r + k))) / (nI 16)))), (0, .int e), (1, .int (nI r)), (2, .int (nI j)), (3, .int (nI (nF (r + 1) - 1)))]) (k := 5) cx dX4_shareOf_58 rfl (gn_inc1 (nF r + k)) (by decide) rfl ?_
          refine g_goto (tgt := 36) cx dX4_shareOf_61 (by decide) ?_
          refine g_lv [2, 3, 4, 5, 1, 0] rfl ?_
          exact ih_L36 (k + 1) ((lft e (nF r) k) - ((e * (zW (nF r + k))) / (nI 16))) (by omega) rfl (by omega)
    refine g_lv [3, 4, 5, 2, 1, 0] rfl ?_
    exact L36 (nF (r + 1) - 1 - nF r - 0 + 1) 0 e (by omega) rfl (by omega)
  ·
    have z1 := gn_nle (a := (nF (r + 1)) - 1) (b := j) (by omega) (by omega) z1
    refine g_iload_n cx dX4_shareOf_15 rfl ?_
    refine g_gets cx cx.2.2.2.2.2.1.2.1.2.2.2 (by decide +kernel) dX4_shareOf_16 ?_
    refine g_iload_n cx dX4_shareOf_19 rfl ?_
    refine g_ti cx cx.2.2.2.2.2.1.2.1.2.2.2 (vp_in_nI (by omega) (by omega)) (congrArg zW (nI_clamp (by omega))) dX4_shareOf_20 ?_
    refine g_imul cx dX4_shareOf_21 ?_
    refine g_bipush cx dX4_shareOf_22 kc_b16 ?_
    refine g_idiv cx dX4_shareOf_24 (by decide) ?_
    exact g_iretE cx dX4_shareOf_25 (rfl) (by first | (unfold sh; rw [if_pos (by omega)]; done) | (unfold sh; rw [if_neg (by omega), show nF (r + 1) - 1 - nF r = k from by omega]))
set_option maxRecDepth 100000 in
set_option maxHeartbeats 4000000 in
theorem c_X3_sumOfGreys (l : Launch) (E : gEnv) (h : Nat) (a : Nat) (f : Nat → Int32) (r : Int32) (t : Int32) (w : Bool)  : gM l yX3_sumOfGreys wsX3_sumOfGreys ({ frames := 0, cells := 0, slots := 0, locals := 0 } : Room) E [.ref h] [(h, .inr (3, [.ref a, .int r, .int t, .int (gB w)])), (a, .inl (E.2.1 0, 64, .inl f))] [(h, .inr (3, [.ref a, .int r, .int t, .int (gB w)])), (a, .inl (E.2.1 0, 64, .inl f))] (some (.int (isum f 64))) := by
  refine gM.ofG (cc := cX3_sumOfGreys) (nL := 3) (ret := (some .int)) (own := RX3) [(0, .ref h)] (by decide) rfl rfl (Nat.le_of_ble_eq_true rfl) rfl rfl ?_
  intro pX eX sX mX bX tX cX A cx
  have hiX3 : ∀ w ∈ u_ws RX3 TX3 4, w ∈ wsX3_sumOfGreys := by decide +kernel
  refine g_iconst cx dX3_sumOfGreys_0 kc_i0 ?_
  refine g_istore_n (lv' := [(1, .int (nI 0)), (0, .ref h)]) cx dX3_sumOfGreys_1 rfl (by decide) rfl ?_
  refine g_iconst cx dX3_sumOfGreys_2 kc_i0 ?_
  refine g_istore_n (lv' := [(2, .int (nI 0)), (1, .int (nI 0)), (0, .ref h)]) cx dX3_sumOfGreys_3 rfl (by decide) rfl ?_
  have L4 : ∀ (n_ : Nat) (i : Nat) (x : Int32), 64 - i < n_ → x = isum f i → i ≤ 64 → gG pX l eX ({ frames := 0, cells := 0, slots := 0, locals := 0 } : Room) sX mX ([.ref h] : List Value).toArray bX tX cX 3 E A (MQ bX (gQ E [(h, .inr (3, [.ref a, .int r, .int t, .int (gB w)])), (a, .inl (E.2.1 0, 64, .inl f))] (some (.int (isum f 64))) A) ([.ref h] : List Value).toArray sX 0 0 A) 0 0 [(h, .inr (3, [.ref a, .int r, .int t, .int (gB w)])), (a, .inl (E.2.1 0, 64, .inl f))] [(0, .ref h), (1, .int x), (2, .int (nI i))] [] 4 := by
    intro n_
    induction n_ with
    | zero => intro i x hm_; exact absurd hm_ (Nat.not_lt_zero _)
    | succ n_ ih_L4 =>
      intro i x hm_ e_x hi
      subst e_x
      refine g_iload_n cx dX3_sumOfGreys_4 rfl ?_
      refine g_bipush cx dX3_sumOfGreys_5 kc_b64 ?_
      refine g_icmp_ge (tgt := 25) cx dX3_sumOfGreys_7 (by decide) (fun z1 => ?_) (fun z1 => ?_)
      ·
        have z1 := gn_le (a := 64) (b := i) (by omega) (by omega) z1
        obtain rfl : i = 64 := by omega
        refine g_iload_n cx dX3_sumOfGreys_25 rfl ?_
        exact g_iretE cx dX3_sumOfGreys_26 (rfl) (rfl)
      ·
        have z1 := gn_nle (a := 64) (b := i) (by omega) (by omega) z1
        refine g_iload_n cx dX3_sumOfGreys_10 rfl ?_
        refine g_aload_n cx dX3_sumOfGreys_11 rfl ?_
        refine g_get (C := RX3) (T := TX3) (N := 4) (ci := 3) cx hiX3 0 0 (by decide) rfl (by decide +kernel) rfl rfl dX3_sumOfGreys_12 ?_
        refine g_iload_n cx dX3_sumOfGreys_15 rfl ?_
        refine g_iald cx 1 rfl rfl (vp_in_nI (by omega) (by omega)) (congrArg _ (nI_clamp (by omega))) dX3_sumOfGreys_16 ?_
        refine g_iadd cx dX3_sumOfGreys_17 ?_
        refine g_istore_n (lv' := [(1, .int ((isum f i) + (f i))), (0, .ref h), (2, .int (nI i))]) cx dX3_sumOfGreys_18 rfl (by decide) rfl ?_
        refine g_iinc (lv' := [(2, .int (nI (i + 1))), (1, .int ((isum f i) + (f i))), (0, .ref h)]) (k := 2) cx dX3_sumOfGreys_19 rfl (gn_inc1 i) (by decide) rfl ?_
        refine g_goto (tgt := 4) cx dX3_sumOfGreys_22 (by decide) ?_
        refine g_lv [2, 1, 0] rfl ?_
        exact ih_L4 (i + 1) ((isum f i) + (f i)) (by omega) rfl (by omega)
  refine g_lv [2, 1, 0] rfl ?_
  exact L4 (64 - 0 + 1) 0 (nI 0) (by omega) rfl (by omega)
set_option maxRecDepth 100000 in
set_option maxHeartbeats 4000000 in
theorem c_X3_cellsWithoutGrey (l : Launch) (E : gEnv) (h : Nat) (a : Nat) (f : Nat → Int32) (r : Int32) (t : Int32) (w : Bool)  : gM l yX3_cellsWithoutGrey wsX3_cellsWithoutGrey ({ frames := 0, cells := 0, slots := 0, locals := 0 } : Room) E [.ref h] [(h, .inr (3, [.ref a, .int r, .int t, .int (gB w)])), (a, .inl (E.2.1 0, 64, .inl f))] [(h, .inr (3, [.ref a, .int r, .int t, .int (gB w)])), (a, .inl (E.2.1 0, 64, .inl f))] (some (.int (nI (cz f 64)))) := by
  refine gM.ofG (cc := cX3_cellsWithoutGrey) (nL := 3) (ret := (some .int)) (own := RX3) [(0, .ref h)] (by decide) rfl rfl (Nat.le_of_ble_eq_true rfl) rfl rfl ?_
  intro pX eX sX mX bX tX cX A cx
  have hiX3 : ∀ w ∈ u_ws RX3 TX3 4, w ∈ wsX3_cellsWithoutGrey := by decide +kernel
  refine g_iconst cx dX3_cellsWithoutGrey_0 kc_i0 ?_
  refine g_istore_n (lv' := [(1, .int (nI 0)), (0, .ref h)]) cx dX3_cellsWithoutGrey_1 rfl (by decide) rfl ?_
  refine g_iconst cx dX3_cellsWithoutGrey_2 kc_i0 ?_
  refine g_istore_n (lv' := [(2, .int (nI 0)), (1, .int (nI 0)), (0, .ref h)]) cx dX3_cellsWithoutGrey_3 rfl (by decide) rfl ?_
  have L4 : ∀ (n_ : Nat) (i : Nat) (x : Nat), 64 - i < n_ → x = cz f i → i ≤ 64 → gG pX l eX ({ frames := 0, cells := 0, slots := 0, locals := 0 } : Room) sX mX ([.ref h] : List Value).toArray bX tX cX 3 E A (MQ bX (gQ E [(h, .inr (3, [.ref a, .int r, .int t, .int (gB w)])), (a, .inl (E.2.1 0, 64, .inl f))] (some (.int (nI (cz f 64)))) A) ([.ref h] : List Value).toArray sX 0 0 A) 0 0 [(h, .inr (3, [.ref a, .int r, .int t, .int (gB w)])), (a, .inl (E.2.1 0, 64, .inl f))] [(0, .ref h), (1, .int (nI x)), (2, .int (nI i))] [] 4 := by
    intro n_
    induction n_ with
    | zero => intro i x hm_; exact absurd hm_ (Nat.not_lt_zero _)
    | succ n_ ih_L4 =>
      intro i x hm_ e_x hi
      subst e_x
      refine g_iload_n cx dX3_cellsWithoutGrey_4 rfl ?_
      refine g_bipush cx dX3_cellsWithoutGrey_5 kc_b64 ?_
      refine g_icmp_ge (tgt := 28) cx dX3_cellsWithoutGrey_7 (by decide) (fun z1 => ?_) (fun z1 => ?_)
      ·
        have z1 := gn_le (a := 64) (b := i) (by omega) (by omega) z1
        obtain rfl : i = 64 := by omega
        refine g_iload_n cx dX3_cellsWithoutGrey_28 rfl ?_
        exact g_iretE cx dX3_cellsWithoutGrey_29 (rfl) (rfl)
      ·
        have z1 := gn_nle (a := 64) (b := i) (by omega) (by omega) z1
        refine g_aload_n cx dX3_cellsWithoutGrey_10 rfl ?_
        refine g_get (C := RX3) (T := TX3) (N := 4) (ci := 3) cx hiX3 0 0 (by decide) rfl (by decide +kernel) rfl rfl dX3_cellsWithoutGrey_11 ?_
        refine g_iload_n cx dX3_cellsWithoutGrey_14 rfl ?_
        refine g_iald cx 1 rfl rfl (vp_in_nI (by omega) (by omega)) (congrArg _ (nI_clamp (by omega))) dX3_cellsWithoutGrey_15 ?_
        refine g_if_ne (tgt := 22) cx dX3_cellsWithoutGrey_16 (by decide) (fun z2 => ?_) (fun z2 => ?_)
        ·
          refine g_iinc (lv' := [(2, .int (nI (i + 1))), (0, .ref h), (1, .int (nI (cz f i)))]) (k := 2) cx dX3_cellsWithoutGrey_22 rfl (gn_inc1 i) (by decide) rfl ?_
          refine g_goto (tgt := 4) cx dX3_cellsWithoutGrey_25 (by decide) ?_
          refine g_lv [1, 2, 0] rfl ?_
          exact ih_L4 (i + 1) (cz f i) (by omega) (by first | exact (cz_z (by assumption)).symm | exact (cz_n (by assumption)).symm) (by omega)
        ·
          refine g_iinc (lv' := [(1, .int (nI ((cz f i) + 1))), (0, .ref h), (2, .int (nI i))]) (k := 1) cx dX3_cellsWithoutGrey_19 rfl (gn_inc1 (cz f i)) (by decide) rfl ?_
          refine g_iinc (lv' := [(2, .int (nI (i + 1))), (1, .int (nI ((cz f i) + 1))), (0, .ref h)]) (k := 2) cx dX3_cellsWithoutGrey_22 rfl (gn_inc1 i) (by decide) rfl ?_
          refine g_goto (tgt := 4) cx dX3_cellsWithoutGrey_25 (by decide) ?_
          refine g_lv [2, 1, 0] rfl ?_
          exact ih_L4 (i + 1) ((cz f i) + 1) (by omega) (by first | exact (cz_z (by assumption)).symm | exact (cz_n (by assumption)).symm) (by omega)
  refine g_lv [2, 1, 0] rfl ?_
  exact L4 (64 - 0 + 1) 0 0 (by omega) rfl (by omega)
set_option maxRecDepth 100000 in
set_option maxHeartbeats 4000000 in
theorem c_X3_putGrey (l : Launch) (E : gEnv) (h : Nat) (a : Nat) (f : Nat → Int32) (r : Int32) (t : Int32) (w : Bool) (c : Nat) (g : Int32) (hc : c < 64) : gM l yX3_putGrey wsX3_putGrey ({ frames := 0, cells := 0, slots := 0, locals := 0 } : Room) E [.ref h, .int (nI c), .int g] [(h, .inr (3, [.ref a, .int r, .int t, .int (gB w)])), (a, .inl (E.2.1 0, 64, .inl f))] [(h, .inr (3, [.ref a, .int r, .int t, .int (gB w)])), (a, .inl (E.2.1 0, 64, .inl (upd f c g)))] (some (.int (f c))) := by
  refine gM.ofG (cc := cX3_putGrey) (nL := 4) (ret := (some .int)) (own := RX3) [(0, .ref h), (1, .int (nI c)), (2, .int g)] (by decide) rfl rfl (Nat.le_of_ble_eq_true rfl) rfl rfl ?_
  intro pX eX sX mX bX tX cX A cx
  have hiX3 : ∀ w ∈ u_ws RX3 TX3 4, w ∈ wsX3_putGrey := by decide +kernel
  refine g_aload_n cx dX3_putGrey_0 rfl ?_
  refine g_get (C := RX3) (T := TX3) (N := 4) (ci := 3) cx hiX3 0 0 (by decide) rfl (by decide +kernel) rfl rfl dX3_putGrey_1 ?_
  refine g_iload_n cx dX3_putGrey_4 rfl ?_
  refine g_iald cx 1 rfl rfl (vp_in_nI (by omega) (by omega)) (congrArg _ (nI_clamp (by omega))) dX3_putGrey_5 ?_
  refine g_istore_n (lv' := [(3, .int (f c)), (0, .ref h), (1, .int (nI c)), (2, .int g)]) cx dX3_putGrey_6 rfl (by decide) rfl ?_
  refine g_aload_n cx dX3_putGrey_7 rfl ?_
  refine g_get (C := RX3) (T := TX3) (N := 4) (ci := 3) cx hiX3 0 0 (by decide) rfl (by decide +kernel) rfl rfl dX3_putGrey_8 ?_
  refine g_iload_n cx dX3_putGrey_11 rfl ?_
  refine g_iload_n cx dX3_putGrey_12 rfl ?_
  refine g_iast (ws' := [(h, .inr (3, [.ref a, .int r, .int t, .int (gB w)])), (a, .inl (E.2.1 0, 64, .inl (upd f c g)))]) cx 1 rfl rfl (vp_in_nI (by omega) (by omega)) (by rw [nI_clamp (by omega)]; rfl) dX3_putGrey_13 ?_
  refine g_iload_n cx dX3_putGrey_14 rfl ?_
  exact g_iretE cx dX3_putGrey_15 (rfl) (rfl)
set_option maxRecDepth 100000 in
set_option maxHeartbeats 4000000 in
theorem c_X3_turnOver (l : Launch) (E : gEnv) (h : Nat) (a : Nat) (f : Nat → Int32) (r : Int32) (t : Int32) (w : Bool)  : gM l yX3_turnOver wsX3_turnOver ({ frames := 0, cells := 0, slots := 0, locals := 0 } : Room) E [.ref h] [(h, .inr (3, [.ref a, .int r, .int t, .int (gB w)])), (a, .inl (E.2.1 0, 64, .inl f))] [(h, .inr (3, [.ref a, .int r, .int t, .int (gB w)])), (a, .inl (E.2.1 0, 64, .inl (mU (fun x => nI 255 - x) f 64)))] none := by
  refine gM.ofG (cc := cX3_turnOver) (nL := 2) (ret := none) (own := RX3) [(0, .ref h)] (by decide) rfl rfl (Nat.le_of_ble_eq_true rfl) rfl rfl ?_
  intro pX eX sX mX bX tX cX A cx
  have hiX3 : ∀ w ∈ u_ws RX3 TX3 4, w ∈ wsX3_turnOver := by decide +kernel
  refine g_iconst cx dX3_turnOver_0 kc_i0 ?_
  refine g_istore_n (lv' := [(1, .int (nI 0)), (0, .ref h)]) cx dX3_turnOver_1 rfl (by decide) rfl ?_
  have L2 : ∀ (n_ : Nat) (i : Nat) (g : Nat → Int32), 64 - i < n_ → g = mU (fun x => nI 255 - x) f i → i ≤ 64 → gG pX l eX ({ frames := 0, cells := 0, slots := 0, locals := 0 } : Room) sX mX ([.ref h] : List Value).toArray bX tX cX 2 E A (MQ bX (gQ E [(h, .inr (3, [.ref a, .int r, .int t, .int (gB w)])), (a, .inl (E.2.1 0, 64, .inl (mU (fun x => nI 255 - x) f 64)))] none A) ([.ref h] : List Value).toArray sX 0 0 A) 0 0 [(h, .inr (3, [.ref a, .int r, .int t, .int (gB w)])), (a, .inl (E.2.1 0, 64, .inl g))] [(0, .ref h), (1, .int (nI i))] [] 2 := by
    intro n_
    induction n_ with
    | zero => intro i g hm_; exact absurd hm_ (Nat.not_lt_zero _)
    | succ n_ ih_L2 =>
      intro i g hm_ e_g hi
      subst e_g
      refine g_iload_n cx dX3_turnOver_2 rfl ?_
      refine g_bipush cx dX3_turnOver_3 kc_b64 ?_
      refine g_icmp_ge (tgt := 30) cx dX3_turnOver_5 (by decide) (fun z1 => ?_) (fun z1 => ?_)
      ·
        have z1 := gn_le (a := 64) (b := i) (by omega) (by omega) z1
        obtain rfl : i = 64 := by omega
        exact g_vretE cx dX3_turnOver_30 (rfl)
      ·
        have z1 := gn_nle (a := 64) (b := i) (by omega) (by omega) z1
        refine g_aload_n cx dX3_turnOver_8 rfl ?_
        refine g_get (C := RX3) (T := TX3) (N := 4) (ci := 3) cx hiX3 0 0 (by decide) rfl (by decide +kernel) rfl rfl dX3_turnOver_9 ?_
        refine g_iload_n cx dX3_turnOver_12 rfl ?_
        refine g_sipush cx dX3_turnOver_13 kc_s255 ?_
        refine g_aload_n cx dX3_turnOver_16 rfl ?_
        refine g_get (C := RX3) (T := TX3) (N := 4) (ci := 3) cx hiX3 0 0 (by decide) rfl (by decide +kernel) rfl rfl dX3_turnOver_17 ?_
        refine g_iload_n cx dX3_turnOver_20 rfl ?_
        refine g_iald cx 1 rfl rfl (vp_in_nI (by omega) (by omega)) (congrArg _ (nI_clamp (by omega))) dX3_turnOver_21 ?_
        refine g_isub cx dX3_turnOver_22 ?_
        refine g_iast (ws' := [(h, .inr (3, [.ref a, .int r, .int t, .int (gB w)])), (a, .inl (E.2.1 0, 64, .inl (upd (mU (fun x => nI 255 - x) f i) i ((nI 255) - ((mU (fun x => nI 255 - x) f i) i)))))]) cx 1 rfl rfl (vp_in_nI (by omega) (by omega)) (by rw [nI_clamp (by omega)]; rfl) dX3_turnOver_23 ?_
        refine g_iinc (lv' := [(1, .int (nI (i + 1))), (0, .ref h)]) (k := 1) cx dX3_turnOver_24 rfl (gn_inc1 i) (by decide) rfl ?_
        refine g_goto (tgt := 2) cx dX3_turnOver_27 (by decide) ?_
        refine g_lv [1, 0] rfl ?_
        exact ih_L2 (i + 1) (upd (mU (fun x => nI 255 - x) f i) i ((nI 255) - ((mU (fun x => nI 255 - x) f i) i))) (by omega) (mU_step _ _ _) (by omega)
  refine g_lv [1, 0] rfl ?_
  exact L2 (64 - 0 + 1) 0 f (by omega) (mU_0 _ _).symm (by omega)
set_option maxRecDepth 100000 in
set_option maxHeartbeats 4000000 in
theorem c_X3_lessen (l : Launch) (E : gEnv) (h : Nat) (a : Nat) (f : Nat → Int32) (r : Int32) (t : Int32) (w : Bool) (am : Int32)  : gM l yX3_lessen wsX3_lessen ({ frames := 1, cells := 0, slots := 0, locals := 40 } : Room) E [.ref h, .int am] [(h, .inr (3, [.ref a, .int r, .int t, .int (gB w)])), (a, .inl (E.2.1 0, 64, .inl f))] [(h, .inr (3, [.ref a, .int r, .int t, .int (gB w)])), (a, .inl (E.2.1 0, 64, .inl (mU (fun x => if x - am < nI 0 then nI 0 else x - am) f 64)))] none := by
  refine gM.ofG (cc := cX3_lessen) (nL := 3) (ret := none) (own := RX3) [(0, .ref h), (1, .int am)] (by decide) rfl rfl (Nat.le_of_ble_eq_true rfl) rfl rfl ?_
  intro pX eX sX mX bX tX cX A cx
  have hiX3 : ∀ w ∈ u_ws RX3 TX3 4, w ∈ wsX3_lessen := by decide +kernel
  refine g_iconst cx dX3_lessen_0 kc_i0 ?_
  refine g_istore_n (lv' := [(2, .int (nI 0)), (0, .ref h), (1, .int am)]) cx dX3_lessen_1 rfl (by decide) rfl ?_
  have L2 : ∀ (n_ : Nat) (i : Nat) (g : Nat → Int32), 64 - i < n_ → g = mU (fun x => if x - am < nI 0 then nI 0 else x - am) f i → i ≤ 64 → gG pX l eX ({ frames := 1, cells := 0, slots := 0, locals := 40 } : Room) sX mX ([.ref h, .int am] : List Value).toArray bX tX cX 3 E A (MQ bX (gQ E [(h, .inr (3, [.ref a, .int r, .int t, .int (gB w)])), (a, .inl (E.2.1 0, 64, .inl (mU (fun x => if x - am < nI 0 then nI 0 else x - am) f 64)))] none A) ([.ref h, .int am] : List Value).toArray sX 0 0 A) 0 0 [(h, .inr (3, [.ref a, .int r, .int t, .int (gB w)])), (a, .inl (E.2.1 0, 64, .inl g))] [(0, .ref h), (1, .int am), (2, .int (nI i))] [] 2 := by
    intro n_
    induction n_ with
    | zero => intro i g hm_; exact absurd hm_ (Nat.not_lt_zero _)
    | succ n_ ih_L2 =>
      intro i g hm_ e_g hi
      subst e_g
      refine g_iload_n cx dX3_lessen_2 rfl ?_
      refine g_bipush cx dX3_lessen_3 kc_b64 ?_
      refine g_icmp_ge (tgt := 32) cx dX3_lessen_5 (by decide) (fun z1 => ?_) (fun z1 => ?_)
      ·
        have z1 := gn_le (a := 64) (b := i) (by omega) (by omega) z1
        obtain rfl : i = 64 := by omega
        exact g_vretE cx dX3_lessen_32 (rfl)
      ·
        have z1 := gn_nle (a := 64) (b := i) (by omega) (by omega) z1
        refine g_aload_n cx dX3_lessen_8 rfl ?_
        refine g_get (C := RX3) (T := TX3) (N := 4) (ci := 3) cx hiX3 0 0 (by decide) rfl (by decide +kernel) rfl rfl dX3_lessen_9 ?_
        refine g_iload_n cx dX3_lessen_12 rfl ?_
        refine g_aload_n cx dX3_lessen_13 rfl ?_
        refine g_get (C := RX3) (T := TX3) (N := 4) (ci := 3) cx hiX3 0 0 (by decide) rfl (by decide +kernel) rfl rfl dX3_lessen_14 ?_
        refine g_iload_n cx dX3_lessen_17 rfl ?_
        refine g_iald cx 1 rfl rfl (vp_in_nI (by omega) (by omega)) (congrArg _ (nI_clamp (by omega))) dX3_lessen_18 ?_
        refine g_iload_n cx dX3_lessen_19 rfl ?_
        refine g_isub cx dX3_lessen_20 ?_
        refine g_iconst cx dX3_lessen_21 kc_i0 ?_
        refine g_mmax cx (by decide +kernel) (by decide +kernel) (by decide +kernel) (by decide +kernel) (Nat.le_of_ble_eq_true rfl) (Nat.le_of_ble_eq_true rfl) ⟨Nat.zero_le _, Nat.zero_le _⟩ dX3_lessen_22 ?_
        refine g_iast (ws' := [(h, .inr (3, [.ref a, .int r, .int t, .int (gB w)])), (a, .inl (E.2.1 0, 64, .inl (upd (mU (fun x => if x - am < nI 0 then nI 0 else x - am) f i) i (if ((mU (fun x => if x - am < nI 0 then nI 0 else x - am) f i) i) - am < nI 0 then nI 0 else ((mU (fun x => if x - am < nI 0 then nI 0 else x - am) f i) i) - am))))]) cx 1 rfl rfl (vp_in_nI (by omega) (by omega)) (by rw [nI_clamp (by omega)]; rfl) dX3_lessen_25 ?_
        refine g_iinc (lv' := [(2, .int (nI (i + 1))), (0, .ref h), (1, .int am)]) (k := 2) cx dX3_lessen_26 rfl (gn_inc1 i) (by decide) rfl ?_
        refine g_goto (tgt := 2) cx dX3_lessen_29 (by decide) ?_
        refine g_lv [1, 2, 0] rfl ?_
        exact ih_L2 (i + 1) (upd (mU (fun x => if x - am < nI 0 then nI 0 else x - am) f i) i (if ((mU (fun x => if x - am < nI 0 then nI 0 else x - am) f i) i) - am < nI 0 then nI 0 else ((mU (fun x => if x - am < nI 0 then nI 0 else x - am) f i) i) - am)) (by omega) (mU_step _ _ _) (by omega)
  refine g_lv [1, 2, 0] rfl ?_
  exact L2 (64 - 0 + 1) 0 f (by omega) (mU_0 _ _).symm (by omega)
set_option maxRecDepth 100000 in
set_option maxHeartbeats 4000000 in
theorem c_X3_copyFrom (l : Launch) (E : gEnv) (h : Nat) (a : Nat) (f : Nat → Int32) (r : Int32) (t : Int32) (w : Bool) (h2 : Nat) (a2 : Nat) (f2 : Nat → Int32) (r2 : Int32) (t2 : Int32) (w2 : Bool)  : gM l yX3_copyFrom wsX3_copyFrom ({ frames := 1, cells := 0, slots := 0, locals := 60 } : Room) E [.ref h, .ref h2] [(h, .inr (3, [.ref a, .int r, .int t, .int (gB w)])), (a, .inl (E.2.1 0, 64, .inl f)), (h2, .inr (3, [.ref a2, .int r2, .int t2, .int (gB w2)])), (a2, .inl (E.2.1 0, 64, .inl f2))] [(h, .inr (3, [.ref a, .int r2, .int t2, .int (gB w2)])), (a, .inl (E.2.1 0, 64, .inl f2)), (h2, .inr (3, [.ref a2, .int r2, .int t2, .int (gB w2)])), (a2, .inl (E.2.1 0, 64, .inl f2))] none := by
  refine gM.ofG (cc := cX3_copyFrom) (nL := 2) (ret := none) (own := RX3) [(0, .ref h), (1, .ref h2)] (by decide) rfl rfl (Nat.le_of_ble_eq_true rfl) rfl rfl ?_
  intro pX eX sX mX bX tX cX A cx
  have hiX3 : ∀ w ∈ u_ws RX3 TX3 4, w ∈ wsX3_copyFrom := by decide +kernel
  refine g_aload_n cx dX3_copyFrom_0 rfl ?_
  refine g_get (C := RX3) (T := TX3) (N := 4) (ci := 3) cx hiX3 2 0 (by decide) rfl (by decide +kernel) rfl rfl dX3_copyFrom_1 ?_
  refine g_iconst cx dX3_copyFrom_4 kc_i0 ?_
  refine g_aload_n cx dX3_copyFrom_5 rfl ?_
  refine g_get (C := RX3) (T := TX3) (N := 4) (ci := 3) cx hiX3 0 0 (by decide) rfl (by decide +kernel) rfl rfl dX3_copyFrom_6 ?_
  refine g_iconst cx dX3_copyFrom_9 kc_i0 ?_
  refine g_bipush cx dX3_copyFrom_10 kc_b64 ?_
  refine g_copyi (g2 := f2) (ws' := [(h, .inr (3, [.ref a, .int r, .int t, .int (gB w)])), (a, .inl (E.2.1 0, 64, .inl f2)), (h2, .inr (3, [.ref a2, .int r2, .int t2, .int (gB w2)])), (a2, .inl (E.2.1 0, 64, .inl f2))]) cx (by decide +kernel) (by decide +kernel) (by decide +kernel) (by decide +kernel) 3 1 rfl rfl rfl rfl (by decide) (by decide) (by decide) (by decide) (by decide) (Nat.le_of_ble_eq_true rfl) (Nat.le_of_ble_eq_true rfl) dX3_copyFrom_12 (fun j hj => gcpy (by omega) hj) rfl ?_
  refine g_aload_n cx dX3_copyFrom_15 rfl ?_
  refine g_aload_n cx dX3_copyFrom_16 rfl ?_
  refine g_get (C := RX3) (T := TX3) (N := 4) (ci := 3) cx hiX3 2 1 (by decide) rfl (by decide +kernel) rfl rfl dX3_copyFrom_17 ?_
  refine g_put (ws' := [(h, .inr (3, [.ref a, .int r2, .int t, .int (gB w)])), (a, .inl (E.2.1 0, 64, .inl f2)), (h2, .inr (3, [.ref a2, .int r2, .int t2, .int (gB w2)])), (a2, .inl (E.2.1 0, 64, .inl f2))]) (C := RX3) (T := TX3) (N := 4) (ci := 3) cx hiX3 tyX3 tyX3_ok nmX3 0 1 (by decide) rfl (by decide +kernel) rfl rfl rfl rfl rfl (Nat.le_of_ble_eq_true rfl) rfl dX3_copyFrom_20 ?_
  refine g_aload_n cx dX3_copyFrom_23 rfl ?_
  refine g_aload_n cx dX3_copyFrom_24 rfl ?_
  refine g_get (C := RX3) (T := TX3) (N := 4) (ci := 3) cx hiX3 2 2 (by decide) rfl (by decide +kernel) rfl rfl dX3_copyFrom_25 ?_
  refine g_put (ws' := [(h, .inr (3, [.ref a, .int r2, .int t2, .int (gB w)])), (a, .inl (E.2.1 0, 64, .inl f2)), (h2, .inr (3, [.ref a2, .int r2, .int t2, .int (gB w2)])), (a2, .inl (E.2.1 0, 64, .inl f2))]) (C := RX3) (T := TX3) (N := 4) (ci := 3) cx hiX3 tyX3 tyX3_ok nmX3 0 2 (by decide) rfl (by decide +kernel) rfl rfl rfl rfl rfl (Nat.le_of_ble_eq_true rfl) rfl dX3_copyFrom_28 ?_
  refine g_aload_n cx dX3_copyFrom_31 rfl ?_
  refine g_aload_n cx dX3_copyFrom_32 rfl ?_
  refine g_get (C := RX3) (T := TX3) (N := 4) (ci := 3) cx hiX3 2 3 (by decide) rfl (by decide +kernel) rfl rfl dX3_copyFrom_33 ?_
  refine g_put (ws' := [(h, .inr (3, [.ref a, .int r2, .int t2, .int (gB w2)])), (a, .inl (E.2.1 0, 64, .inl f2)), (h2, .inr (3, [.ref a2, .int r2, .int t2, .int (gB w2)])), (a2, .inl (E.2.1 0, 64, .inl f2))]) (C := RX3) (T := TX3) (N := 4) (ci := 3) cx hiX3 tyX3 tyX3_ok nmX3 0 3 (by decide) rfl (by decide +kernel) rfl rfl rfl (gB_nar _) (gB_fit _) (Nat.le_of_ble_eq_true rfl) rfl dX3_copyFrom_36 ?_
  exact g_vretE cx dX3_copyFrom_39 (rfl)
set_option maxRecDepth 100000 in
set_option maxHeartbeats 4000000 in
theorem c_X3_directionOfRow (l : Launch) (E : gEnv) (h : Nat) (a : Nat) (f : Nat → Int32) (r : Int32) (t : Int32) (w : Bool) (row : Nat) (hrow : row < 2 ^ 31) : gM l yX3_directionOfRow wsX3_directionOfRow ({ frames := 0, cells := 0, slots := 0, locals := 0 } : Room) E [.ref h, .int (nI row)] [(h, .inr (3, [.ref a, .int r, .int t, .int (gB w)])), (a, .inl (E.2.1 0, 64, .inl f))] [(h, .inr (3, [.ref a, .int r, .int t, .int (gB w)])), (a, .inl (E.2.1 0, 64, .inl f))] (some (.int (dirI w row))) := by
  refine gM.ofG (cc := cX3_directionOfRow) (nL := 2) (ret := (some .int)) (own := RX3) [(0, .ref h), (1, .int (nI row))] (by decide) rfl rfl (Nat.le_of_ble_eq_true rfl) rfl rfl ?_
  intro pX eX sX mX bX tX cX A cx
  have hiX3 : ∀ w ∈ u_ws RX3 TX3 4, w ∈ wsX3_directionOfRow := by decide +kernel
  refine g_aload_n cx dX3_directionOfRow_0 rfl ?_
  refine g_get (C := RX3) (T := TX3) (N := 4) (ci := 3) cx hiX3 0 3 (by decide) rfl (by decide +kernel) rfl rfl dX3_directionOfRow_1 ?_
  refine g_if_eq (tgt := 18) cx dX3_directionOfRow_4 (by decide) (fun z1 => ?_) (fun z1 => ?_)
  ·
    have z1 := gB_eq0 z1
    refine g_iconst cx dX3_directionOfRow_18 kc_i1 ?_
    exact g_iretE cx dX3_directionOfRow_19 (rfl) (by unfold dirI; first | exact (if_pos ⟨by assumption, by assumption⟩).symm | exact (if_neg (fun q => by first | exact absurd q.2 (by assumption) | (have q1 := q.1; simp_all))).symm)
  ·
    have z1 := gB_ne0 z1
    refine g_iload_n cx dX3_directionOfRow_7 rfl ?_
    refine g_iconst cx dX3_directionOfRow_8 kc_i2 ?_
    refine g_irem cx dX3_directionOfRow_9 (by decide) ?_
    refine g_top (pk_rem (a := row) (d := 2) (by omega) (by omega) (by omega)) ?_
    refine g_iconst cx dX3_directionOfRow_10 kc_i1 ?_
    refine g_icmp_ne (tgt := 18) cx dX3_directionOfRow_11 (by decide) (fun z2 => ?_) (fun z2 => ?_)
    ·
      have z2 := gn_ne (a := row % 2) (b := 1) z2
      refine g_iconst cx dX3_directionOfRow_18 kc_i1 ?_
      exact g_iretE cx dX3_directionOfRow_19 (rfl) (by unfold dirI; first | exact (if_pos ⟨by assumption, by assumption⟩).symm | exact (if_neg (fun q => by first | exact absurd q.2 (by assumption) | (have q1 := q.1; simp_all))).symm)
    ·
      have z2 := gn_eq (a := row % 2) (b := 1) (by omega) (by omega) z2
      refine g_iconst cx dX3_directionOfRow_14 kc_im1 ?_
      refine g_goto (tgt := 19) cx dX3_directionOfRow_15 (by decide) ?_
      exact g_iretE cx dX3_directionOfRow_19 (rfl) (by unfold dirI; first | exact (if_pos ⟨by assumption, by assumption⟩).symm | exact (if_neg (fun q => by first | exact absurd q.2 (by assumption) | (have q1 := q.1; simp_all))).symm)
set_option maxRecDepth 100000 in
set_option maxHeartbeats 4000000 in
theorem c_X3_cellPaintedAt (l : Launch) (E : gEnv) (h : Nat) (a : Nat) (f : Nat → Int32) (r : Int32) (t : Int32) (w : Bool) (s_ : Nat) (hs : s_ < 64) : gM l yX3_cellPaintedAt wsX3_cellPaintedAt ({ frames := 1, cells := 0, slots := 0, locals := 21 } : Room) E [.ref h, .int (nI s_)] [(h, .inr (3, [.ref a, .int r, .int t, .int (gB w)])), (a, .inl (E.2.1 0, 64, .inl f))] [(h, .inr (3, [.ref a, .int r, .int t, .int (gB w)])), (a, .inl (E.2.1 0, 64, .inl f))] (some (.int (nI (pcl w s_)))) := by
  refine gM.ofG (cc := cX3_cellPaintedAt) (nL := 4) (ret := (some .int)) (own := RX3) [(0, .ref h), (1, .int (nI s_))] (by decide) rfl rfl (Nat.le_of_ble_eq_true rfl) rfl rfl ?_
  intro pX eX sX mX bX tX cX A cx
  refine g_iload_n cx dX3_cellPaintedAt_0 rfl ?_
  refine g_bipush cx dX3_cellPaintedAt_1 kc_b8 ?_
  refine g_idiv cx dX3_cellPaintedAt_3 (by decide) ?_
  refine g_top (pk_div (a := s_) (d := 8) (by omega) (by omega) (by omega)) ?_
  refine g_istore_n (lv' := [(2, .int (nI (s_ / 8))), (0, .ref h), (1, .int (nI s_))]) cx dX3_cellPaintedAt_4 rfl (by decide) rfl ?_
  refine g_iload_n cx dX3_cellPaintedAt_5 rfl ?_
  refine g_bipush cx dX3_cellPaintedAt_6 kc_b8 ?_
  refine g_irem cx dX3_cellPaintedAt_8 (by decide) ?_
  refine g_top (pk_rem (a := s_) (d := 8) (by omega) (by omega) (by omega)) ?_
  refine g_istore_n (lv' := [(3, .int (nI (s_ % 8))), (2, .int (nI (s_ / 8))), (0, .ref h), (1, .int (nI s_))]) cx dX3_cellPaintedAt_9 rfl (by decide) rfl ?_
  refine g_bipush cx dX3_cellPaintedAt_10 kc_b8 ?_
  refine g_iload_n cx dX3_cellPaintedAt_12 rfl ?_
  refine g_imul cx dX3_cellPaintedAt_13 ?_
  refine g_top (pk_mul 8 (s_ / 8)) ?_
  refine g_aload_n cx dX3_cellPaintedAt_14 rfl ?_
  refine g_iload_n cx dX3_cellPaintedAt_15 rfl ?_
  refine g_callV (ws' := [(h, .inr (3, [.ref a, .int r, .int t, .int (gB w)])), (a, .inl (E.2.1 0, 64, .inl f))]) (As := [.int (nI (s_ / 8))]) (rest := [.int (nI (8 * (s_ / 8)))]) (n := 1) (T := TX3) (N := 4) (ci := 3) cx (c_X3_directionOfRow l E h a f r t w (s_ / 8) (by omega)) gX3_cellPaintedAt_X3_directionOfRow rfl (by decide +kernel) rfl rfl ⟨Nat.le_of_ble_eq_true rfl, Nat.le_of_ble_eq_true rfl⟩ ⟨Nat.zero_le _, Nat.zero_le _⟩ [0, 1] 0 rfl rfl (by decide) rfl rfl rfl rfl (Nat.le_of_ble_eq_true rfl) dX3_cellPaintedAt_16 ?_
  refine g_iconst cx dX3_cellPaintedAt_19 kc_i1 ?_
  refine g_icmp_ne (tgt := 27) cx dX3_cellPaintedAt_20 (by decide) (fun z1 => ?_) (fun z1 => ?_)
  ·
    refine g_bipush cx dX3_cellPaintedAt_27 kc_b7 ?_
    refine g_iload_n cx dX3_cellPaintedAt_29 rfl ?_
    refine g_isub cx dX3_cellPaintedAt_30 ?_
    refine g_top (pk_sub (a := 7) (b := s_ % 8) (by omega)) ?_
    refine g_iadd cx dX3_cellPaintedAt_31 ?_
    refine g_top (nI_add (8 * (s_ / 8)) (7 - (s_ % 8))) ?_
    exact g_iretE cx dX3_cellPaintedAt_32 (rfl) (congrArg nI (by unfold pcl; first | rw [if_pos (by assumption)] | rw [if_neg (by assumption)]))
  ·
    refine g_iload_n cx dX3_cellPaintedAt_23 rfl ?_
    refine g_goto (tgt := 31) cx dX3_cellPaintedAt_24 (by decide) ?_
    refine g_iadd cx dX3_cellPaintedAt_31 ?_
    refine g_top (nI_add (8 * (s_ / 8)) (s_ % 8)) ?_
    exact g_iretE cx dX3_cellPaintedAt_32 (rfl) (congrArg nI (by unfold pcl; first | rw [if_pos (by assumption)] | rw [if_neg (by assumption)]))
