set_option maxRecDepth 100000 in
set_option maxHeartbeats 4000000 in
theorem c_X5_excess (l : Launch) (E : gEnv) (h : Nat) (an : Nat) (ap_ : Nat) (asl : Nat) (ah : Nat) (ax : Nat) (atd : Nat) (av : Nat) (ae : Nat) (nw : Nat → Int32) (ps : Nat → Int32) (sl : Nat → Int32) (hsl : Nat → Int32) (td : Nat → Int32) (va : Nat → Int32) (er : Nat → Int32) (T : Nat → Nat) (hN : Nat) (tyN : Nat) (at_ : Nat) (tlN : Nat) (th : Int32) (go : Int32) (w : Bool) (r : Nat) (hw : nw 66 = gB w) (hr : nw 64 = nI r) (hr4 : r < 4) (hd1 : vf_n64 (FP.ddiv (FP.i2d (nI (mny (pE w r (nw 65) nw) (pV w r (nw 65) nw) 64))) 4634204016564240384)) (hd2 : vf_n64 (FP.ddiv (FP.i2d (isum nw 64)) 4670197629211115520)) (hd3 : vf_n64 (FP.dsub (FP.ddiv (FP.i2d (nI (mny (pE w r (nw 65) nw) (pV w r (nw 65) nw) 64))) 4634204016564240384) (FP.ddiv (FP.i2d (isum nw 64)) 4670197629211115520))) : gM l yX5_excess wsX5_excess ({ frames := 5, cells := 0, slots := 0, locals := 113 } : Room) E [.ref h] [(h, .inr (5, [.ref an, .ref ap_, .ref asl, .ref ah, .int (nI hN), .ref ax, .int (nI tyN), .int th, .int (nI at_), .ref atd, .int (nI tlN), .ref av, .ref ae, .int go])), (an, .inl (E.2.1 0, 67, .inl nw)), (ap_, .inl (E.2.1 0, 402, .inl ps)), (asl, .inl (E.2.1 0, 134, .inl sl)), (ah, .inl (E.2.1 0, 2, .inl hsl)), (ax, .inl (E.2.1 0, 80, .inl (fun j => nI (T j)))), (atd, .inl (E.2.1 0, 123, .inl td)), (av, .inl (E.2.1 0, 64, .inl va)), (ae, .inl (E.2.1 0, 64, .inl er))] [(h, .inr (5, [.ref an, .ref ap_, .ref asl, .ref ah, .int (nI hN), .ref ax, .int (nI tyN), .int (nI 0), .int (nI at_), .ref atd, .int (nI tlN), .ref av, .ref ae, .int (pG w r (nw 65) nw)])), (an, .inl (E.2.1 0, 67, .inl nw)), (ap_, .inl (E.2.1 0, 402, .inl ps)), (asl, .inl (E.2.1 0, 134, .inl sl)), (ah, .inl (E.2.1 0, 2, .inl hsl)), (ax, .inl (E.2.1 0, 80, .inl (fun j => nI (T j)))), (atd, .inl (E.2.1 0, 123, .inl td)), (av, .inl (E.2.1 0, 64, .inl (pV w r (nw 65) nw))), (ae, .inl (E.2.1 0, 64, .inl (pE w r (nw 65) nw)))] (some (.double (FP.dsub (FP.ddiv (FP.i2d (nI (mny (pE w r (nw 65) nw) (pV w r (nw 65) nw) 64))) 4634204016564240384) (FP.ddiv (FP.i2d (isum nw 64)) 4670197629211115520)))) := by
  refine gM.ofG (cc := cX5_excess) (nL := 1) (ret := (some .double)) (own := RX5) [(0, .ref h)] (by decide) rfl rfl (Nat.le_of_ble_eq_true rfl) rfl rfl ?_
  intro pX eX sX mX bX tX cX A cx
  have hiX5 : ∀ w ∈ u_ws RX5 TX5 14, w ∈ wsX5_excess := by decide +kernel
  refine g_aload_n cx dX5_excess_0 rfl ?_
  refine g_iconst cx dX5_excess_1 kc_i0 ?_
  refine g_put (ws' := [(h, .inr (5, [.ref an, .ref ap_, .ref asl, .ref ah, .int (nI hN), .ref ax, .int (nI tyN), .int (nI 0), .int (nI at_), .ref atd, .int (nI tlN), .ref av, .ref ae, .int go])), (an, .inl (E.2.1 0, 67, .inl nw)), (ap_, .inl (E.2.1 0, 402, .inl ps)), (asl, .inl (E.2.1 0, 134, .inl sl)), (ah, .inl (E.2.1 0, 2, .inl hsl)), (ax, .inl (E.2.1 0, 80, .inl (fun j => nI (T j)))), (atd, .inl (E.2.1 0, 123, .inl td)), (av, .inl (E.2.1 0, 64, .inl va)), (ae, .inl (E.2.1 0, 64, .inl er))]) (C := RX5) (T := TX5) (N := 14) (ci := 5) cx hiX5 tyX5 tyX5_ok nmX5 0 7 (by decide) rfl (by decide +kernel) rfl rfl rfl rfl rfl (Nat.le_of_ble_eq_true rfl) rfl dX5_excess_2 ?_
  refine g_aload_n cx dX5_excess_5 rfl ?_
  refine g_callV (ws' := [(h, .inr (5, [.ref an, .ref ap_, .ref asl, .ref ah, .int (nI hN), .ref ax, .int (nI tyN), .int (nI 0), .int (nI at_), .ref atd, .int (nI tlN), .ref av, .ref ae, .int (pG w r (nw 65) nw)])), (an, .inl (E.2.1 0, 67, .inl nw)), (ap_, .inl (E.2.1 0, 402, .inl ps)), (asl, .inl (E.2.1 0, 134, .inl sl)), (ah, .inl (E.2.1 0, 2, .inl hsl)), (ax, .inl (E.2.1 0, 80, .inl (fun j => nI (T j)))), (atd, .inl (E.2.1 0, 123, .inl td)), (av, .inl (E.2.1 0, 64, .inl (pV w r (nw 65) nw))), (ae, .inl (E.2.1 0, 64, .inl (pE w r (nw 65) nw)))]) (As := []) (rest := []) (n := 0) (T := TX5) (N := 14) (ci := 5) cx (c_X5_paintsNow l E h an ap_ asl ah ax atd av ae nw ps sl hsl td va er T hN tyN at_ tlN (nI 0) go w r (by omega) (by omega) (by omega)) gX5_excess_X5_paintsNow rfl (by decide +kernel) rfl rfl ⟨Nat.le_of_ble_eq_true rfl, Nat.le_of_ble_eq_true rfl⟩ ⟨Nat.zero_le _, Nat.zero_le _⟩ [0, 1, 2, 3, 4, 5, 6, 7, 8] 0 rfl rfl (by decide) rfl rfl rfl rfl (Nat.le_of_ble_eq_true rfl) dX5_excess_6 ?_
  refine g_aload_n cx dX5_excess_9 rfl ?_
  refine g_callV (ws' := [(h, .inr (5, [.ref an, .ref ap_, .ref asl, .ref ah, .int (nI hN), .ref ax, .int (nI tyN), .int (nI 0), .int (nI at_), .ref atd, .int (nI tlN), .ref av, .ref ae, .int (pG w r (nw 65) nw)])), (an, .inl (E.2.1 0, 67, .inl nw)), (ap_, .inl (E.2.1 0, 402, .inl ps)), (asl, .inl (E.2.1 0, 134, .inl sl)), (ah, .inl (E.2.1 0, 2, .inl hsl)), (ax, .inl (E.2.1 0, 80, .inl (fun j => nI (T j)))), (atd, .inl (E.2.1 0, 123, .inl td)), (av, .inl (E.2.1 0, 64, .inl (pV w r (nw 65) nw))), (ae, .inl (E.2.1 0, 64, .inl (pE w r (nw 65) nw)))]) (As := []) (rest := []) (n := 0) (T := TX5) (N := 14) (ci := 5) cx (c_X5_many l E h an ap_ asl ah ax atd av ae nw ps sl hsl td (pV w r (nw 65) nw) (pE w r (nw 65) nw) T hN tyN at_ tlN (nI 0) (pG w r (nw 65) nw) ) gX5_excess_X5_many rfl (by decide +kernel) rfl rfl ⟨Nat.le_of_ble_eq_true rfl, Nat.le_of_ble_eq_true rfl⟩ ⟨Nat.zero_le _, Nat.zero_le _⟩ [0, 1, 2, 3, 4, 5, 6, 7, 8] 0 rfl rfl (by decide) rfl rfl rfl rfl (Nat.le_of_ble_eq_true rfl) dX5_excess_10 ?_
  refine g_i2d cx dX5_excess_13 ?_
  refine g_ldc2d (v := 4634204016564240384) cx dX5_excess_14 (by decide +kernel) ?_
  refine g_ddiv cx dX5_excess_17 hd1 ?_
  refine g_aload_n cx dX5_excess_18 rfl ?_
  refine g_callV (ws' := [(h, .inr (5, [.ref an, .ref ap_, .ref asl, .ref ah, .int (nI hN), .ref ax, .int (nI tyN), .int (nI 0), .int (nI at_), .ref atd, .int (nI tlN), .ref av, .ref ae, .int (pG w r (nw 65) nw)])), (an, .inl (E.2.1 0, 67, .inl nw)), (ap_, .inl (E.2.1 0, 402, .inl ps)), (asl, .inl (E.2.1 0, 134, .inl sl)), (ah, .inl (E.2.1 0, 2, .inl hsl)), (ax, .inl (E.2.1 0, 80, .inl (fun j => nI (T j)))), (atd, .inl (E.2.1 0, 123, .inl td)), (av, .inl (E.2.1 0, 64, .inl (pV w r (nw 65) nw))), (ae, .inl (E.2.1 0, 64, .inl (pE w r (nw 65) nw)))]) (As := []) (rest := [.double (FP.ddiv (FP.i2d (nI (mny (pE w r (nw 65) nw) (pV w r (nw 65) nw) 64))) 4634204016564240384)]) (n := 0) (T := TX5) (N := 14) (ci := 5) cx (c_X5_sum l E h an ap_ asl ah ax atd av ae nw ps sl hsl td (pV w r (nw 65) nw) (pE w r (nw 65) nw) T hN tyN at_ tlN (nI 0) (pG w r (nw 65) nw) ) gX5_excess_X5_sum rfl (by decide +kernel) rfl rfl ⟨Nat.le_of_ble_eq_true rfl, Nat.le_of_ble_eq_true rfl⟩ ⟨Nat.zero_le _, Nat.zero_le _⟩ [0, 1, 2, 3, 4, 5, 6, 7, 8] 0 rfl rfl (by decide) rfl rfl rfl rfl (Nat.le_of_ble_eq_true rfl) dX5_excess_19 ?_
  refine g_i2d cx dX5_excess_22 ?_
  refine g_ldc2d (v := 4670197629211115520) cx dX5_excess_23 (by decide +kernel) ?_
  refine g_ddiv cx dX5_excess_26 hd2 ?_
  refine g_dsub cx dX5_excess_27 hd3 ?_
  exact g_dretE cx dX5_excess_28 (rfl) (rfl)
set_option maxRecDepth 100000 in
set_option maxHeartbeats 4000000 in
theorem c_X5_sees_t (l : Launch) (E : gEnv) (h : Nat) (an : Nat) (ap_ : Nat) (asl : Nat) (ah : Nat) (ax : Nat) (atd : Nat) (av : Nat) (ae : Nat) (nw : Nat → Int32) (ps : Nat → Int32) (sl : Nat → Int32) (hsl : Nat → Int32) (td : Nat → Int32) (va : Nat → Int32) (er : Nat → Int32) (T : Nat → Nat) (hN : Nat) (tyN : Nat) (at_ : Nat) (tlN : Nat) (th : Int32) (go : Int32) (ch : Nat) (ha : at_ < tyN) (hc : T at_ = ch) (hty : tyN ≤ 80) (hT : ∀ j, T j < 128) : gM l yX5_sees wsX5_sees ({ frames := 0, cells := 0, slots := 0, locals := 0 } : Room) E [.ref h, .int (nI ch)] [(h, .inr (5, [.ref an, .ref ap_, .ref asl, .ref ah, .int (nI hN), .ref ax, .int (nI tyN), .int th, .int (nI at_), .ref atd, .int (nI tlN), .ref av, .ref ae, .int go])), (an, .inl (E.2.1 0, 67, .inl nw)), (ap_, .inl (E.2.1 0, 402, .inl ps)), (asl, .inl (E.2.1 0, 134, .inl sl)), (ah, .inl (E.2.1 0, 2, .inl hsl)), (ax, .inl (E.2.1 0, 80, .inl (fun j => nI (T j)))), (atd, .inl (E.2.1 0, 123, .inl td)), (av, .inl (E.2.1 0, 64, .inl va)), (ae, .inl (E.2.1 0, 64, .inl er))] [(h, .inr (5, [.ref an, .ref ap_, .ref asl, .ref ah, .int (nI hN), .ref ax, .int (nI tyN), .int th, .int (nI (at_ + 1)), .ref atd, .int (nI tlN), .ref av, .ref ae, .int go])), (an, .inl (E.2.1 0, 67, .inl nw)), (ap_, .inl (E.2.1 0, 402, .inl ps)), (asl, .inl (E.2.1 0, 134, .inl sl)), (ah, .inl (E.2.1 0, 2, .inl hsl)), (ax, .inl (E.2.1 0, 80, .inl (fun j => nI (T j)))), (atd, .inl (E.2.1 0, 123, .inl td)), (av, .inl (E.2.1 0, 64, .inl va)), (ae, .inl (E.2.1 0, 64, .inl er))] (some (.int (gB true))) := by
  refine gM.ofG (cc := cX5_sees) (nL := 3) (ret := (some .boolean)) (own := RX5) [(0, .ref h), (1, .int (nI ch))] (by decide) rfl rfl (Nat.le_of_ble_eq_true rfl) rfl rfl ?_
  intro pX eX sX mX bX tX cX A cx
  have hiX5 : ∀ w ∈ u_ws RX5 TX5 14, w ∈ wsX5_sees := by decide +kernel
  have hTa := hT at_
  refine g_aload_n cx dX5_sees_0 rfl ?_
  refine g_get (C := RX5) (T := TX5) (N := 14) (ci := 5) cx hiX5 0 8 (by decide) rfl (by decide +kernel) rfl rfl dX5_sees_1 ?_
  refine g_aload_n cx dX5_sees_4 rfl ?_
  refine g_get (C := RX5) (T := TX5) (N := 14) (ci := 5) cx hiX5 0 6 (by decide) rfl (by decide +kernel) rfl rfl dX5_sees_5 ?_
  refine g_icmp_ge (tgt := 28) cx dX5_sees_8 (by decide) (fun z1 => absurd (gn_le (a := tyN) (b := at_) (by omega) (by omega) z1) (by omega)) (fun z1 => ?_)
  have z1 := gn_nle (a := tyN) (b := at_) (by omega) (by omega) z1
  refine g_aload_n cx dX5_sees_11 rfl ?_
  refine g_get (C := RX5) (T := TX5) (N := 14) (ci := 5) cx hiX5 0 5 (by decide) rfl (by decide +kernel) rfl rfl dX5_sees_12 ?_
  refine g_aload_n cx dX5_sees_15 rfl ?_
  refine g_get (C := RX5) (T := TX5) (N := 14) (ci := 5) cx hiX5 0 8 (by decide) rfl (by decide +kernel) rfl rfl dX5_sees_16 ?_
  refine g_iald cx 5 rfl rfl (vp_in_nI (by omega) (by omega)) (by rw [nI_clamp (by omega)]) dX5_sees_19 ?_
  refine g_iload_n cx dX5_sees_20 rfl ?_
  refine g_icmp_ne (tgt := 28) cx dX5_sees_21 (by decide) (fun z2 => absurd (congrArg nI hc) z2) (fun z2 => ?_)
  have z2 := gn_eq (a := T at_) (b := ch) (by omega) (by omega) z2
  refine g_iconst cx dX5_sees_24 kc_i1 ?_
  refine g_goto (tgt := 29) cx dX5_sees_25 (by decide) ?_
  refine g_istore_n (lv' := [(2, .int (nI 1)), (0, .ref h), (1, .int (nI ch))]) cx dX5_sees_29 rfl (by decide) rfl ?_
  refine g_aload_n cx dX5_sees_30 rfl ?_
  refine g_dup cx dX5_sees_31 rfl ?_
  refine g_get (C := RX5) (T := TX5) (N := 14) (ci := 5) cx hiX5 0 8 (by decide) rfl (by decide +kernel) rfl rfl dX5_sees_32 ?_
  refine g_iload_n cx dX5_sees_35 rfl ?_
  refine g_if_eq (tgt := 43) cx dX5_sees_36 (by decide) (fun z3 => absurd z3 (by decide +kernel)) (fun z3 => ?_)
  have z3 := gn_ne0 z3
  refine g_iconst cx dX5_sees_39 kc_i1 ?_
  refine g_goto (tgt := 44) cx dX5_sees_40 (by decide) ?_
  refine g_iadd cx dX5_sees_44 ?_
  refine g_top (nI_add at_ 1) ?_
  refine g_put (ws' := [(h, .inr (5, [.ref an, .ref ap_, .ref asl, .ref ah, .int (nI hN), .ref ax, .int (nI tyN), .int th, .int (nI (at_ + 1)), .ref atd, .int (nI tlN), .ref av, .ref ae, .int go])), (an, .inl (E.2.1 0, 67, .inl nw)), (ap_, .inl (E.2.1 0, 402, .inl ps)), (asl, .inl (E.2.1 0, 134, .inl sl)), (ah, .inl (E.2.1 0, 2, .inl hsl)), (ax, .inl (E.2.1 0, 80, .inl (fun j => nI (T j)))), (atd, .inl (E.2.1 0, 123, .inl td)), (av, .inl (E.2.1 0, 64, .inl va)), (ae, .inl (E.2.1 0, 64, .inl er))]) (C := RX5) (T := TX5) (N := 14) (ci := 5) cx hiX5 tyX5 tyX5_ok nmX5 0 8 (by decide) rfl (by decide +kernel) rfl rfl rfl rfl rfl (Nat.le_of_ble_eq_true rfl) rfl dX5_sees_45 ?_
  refine g_iload_n cx dX5_sees_48 rfl ?_
  exact g_zretE cx (by decide +kernel) dX5_sees_49 (rfl) (gB_t)
set_option maxRecDepth 100000 in
set_option maxHeartbeats 4000000 in
theorem c_X5_sees_f (l : Launch) (E : gEnv) (h : Nat) (an : Nat) (ap_ : Nat) (asl : Nat) (ah : Nat) (ax : Nat) (atd : Nat) (av : Nat) (ae : Nat) (nw : Nat → Int32) (ps : Nat → Int32) (sl : Nat → Int32) (hsl : Nat → Int32) (td : Nat → Int32) (va : Nat → Int32) (er : Nat → Int32) (T : Nat → Nat) (hN : Nat) (tyN : Nat) (at_ : Nat) (tlN : Nat) (th : Int32) (go : Int32) (ch : Nat) (hz : ¬ (at_ < tyN ∧ T at_ = ch)) (ha : at_ ≤ tyN) (hch : ch < 128) (hty : tyN ≤ 80) (hT : ∀ j, T j < 128) : gM l yX5_sees wsX5_sees ({ frames := 0, cells := 0, slots := 0, locals := 0 } : Room) E [.ref h, .int (nI ch)] [(h, .inr (5, [.ref an, .ref ap_, .ref asl, .ref ah, .int (nI hN), .ref ax, .int (nI tyN), .int th, .int (nI at_), .ref atd, .int (nI tlN), .ref av, .ref ae, .int go])), (an, .inl (E.2.1 0, 67, .inl nw)), (ap_, .inl (E.2.1 0, 402, .inl ps)), (asl, .inl (E.2.1 0, 134, .inl sl)), (ah, .inl (E.2.1 0, 2, .inl hsl)), (ax, .inl (E.2.1 0, 80, .inl (fun j => nI (T j)))), (atd, .inl (E.2.1 0, 123, .inl td)), (av, .inl (E.2.1 0, 64, .inl va)), (ae, .inl (E.2.1 0, 64, .inl er))] [(h, .inr (5, [.ref an, .ref ap_, .ref asl, .ref ah, .int (nI hN), .ref ax, .int (nI tyN), .int th, .int (nI at_), .ref atd, .int (nI tlN), .ref av, .ref ae, .int go])), (an, .inl (E.2.1 0, 67, .inl nw)), (ap_, .inl (E.2.1 0, 402, .inl ps)), (asl, .inl (E.2.1 0, 134, .inl sl)), (ah, .inl (E.2.1 0, 2, .inl hsl)), (ax, .inl (E.2.1 0, 80, .inl (fun j => nI (T j)))), (atd, .inl (E.2.1 0, 123, .inl td)), (av, .inl (E.2.1 0, 64, .inl va)), (ae, .inl (E.2.1 0, 64, .inl er))] (some (.int (gB false))) := by
  refine gM.ofG (cc := cX5_sees) (nL := 3) (ret := (some .boolean)) (own := RX5) [(0, .ref h), (1, .int (nI ch))] (by decide) rfl rfl (Nat.le_of_ble_eq_true rfl) rfl rfl ?_
  intro pX eX sX mX bX tX cX A cx
  have hiX5 : ∀ w ∈ u_ws RX5 TX5 14, w ∈ wsX5_sees := by decide +kernel
  have hTa := hT at_
  refine g_aload_n cx dX5_sees_0 rfl ?_
  refine g_get (C := RX5) (T := TX5) (N := 14) (ci := 5) cx hiX5 0 8 (by decide) rfl (by decide +kernel) rfl rfl dX5_sees_1 ?_
  refine g_aload_n cx dX5_sees_4 rfl ?_
  refine g_get (C := RX5) (T := TX5) (N := 14) (ci := 5) cx hiX5 0 6 (by decide) rfl (by decide +kernel) rfl rfl dX5_sees_5 ?_
  refine g_icmp_ge (tgt := 28) cx dX5_sees_8 (by decide) (fun z1 => ?_) (fun z1 => ?_)
  ·
    have z1 := gn_le (a := tyN) (b := at_) (by omega) (by omega) z1
    refine g_iconst cx dX5_sees_28 kc_i0 ?_
    refine g_istore_n (lv' := [(2, .int (nI 0)), (0, .ref h), (1, .int (nI ch))]) cx dX5_sees_29 rfl (by decide) rfl ?_
    refine g_aload_n cx dX5_sees_30 rfl ?_
    refine g_dup cx dX5_sees_31 rfl ?_
    refine g_get (C := RX5) (T := TX5) (N := 14) (ci := 5) cx hiX5 0 8 (by decide) rfl (by decide +kernel) rfl rfl dX5_sees_32 ?_
    refine g_iload_n cx dX5_sees_35 rfl ?_
    refine g_if_eq (tgt := 43) cx dX5_sees_36 (by decide) (fun z2 => ?_) (fun z2 => absurd z2 (by decide +kernel))
    have z2 := gn_eq0 (by omega) z2
    refine g_iconst cx dX5_sees_43 kc_i0 ?_
    refine g_iadd cx dX5_sees_44 ?_
    refine g_top (nI_add at_ 0) ?_
    refine g_put (ws' := [(h, .inr (5, [.ref an, .ref ap_, .ref asl, .ref ah, .int (nI hN), .ref ax, .int (nI tyN), .int th, .int (nI (at_ + 0)), .ref atd, .int (nI tlN), .ref av, .ref ae, .int go])), (an, .inl (E.2.1 0, 67, .inl nw)), (ap_, .inl (E.2.1 0, 402, .inl ps)), (asl, .inl (E.2.1 0, 134, .inl sl)), (ah, .inl (E.2.1 0, 2, .inl hsl)), (ax, .inl (E.2.1 0, 80, .inl (fun j => nI (T j)))), (atd, .inl (E.2.1 0, 123, .inl td)), (av, .inl (E.2.1 0, 64, .inl va)), (ae, .inl (E.2.1 0, 64, .inl er))]) (C := RX5) (T := TX5) (N := 14) (ci := 5) cx hiX5 tyX5 tyX5_ok nmX5 0 8 (by decide) rfl (by decide +kernel) rfl rfl rfl rfl rfl (Nat.le_of_ble_eq_true rfl) rfl dX5_sees_45 ?_
    refine g_iload_n cx dX5_sees_48 rfl ?_
    exact g_zretE cx (by decide +kernel) dX5_sees_49 (rfl) (gB_f)
  ·
    have z1 := gn_nle (a := tyN) (b := at_) (by omega) (by omega) z1
    refine g_aload_n cx dX5_sees_11 rfl ?_
    refine g_get (C := RX5) (T := TX5) (N := 14) (ci := 5) cx hiX5 0 5 (by decide) rfl (by decide +kernel) rfl rfl dX5_sees_12 ?_
    refine g_aload_n cx dX5_sees_15 rfl ?_
    refine g_get (C := RX5) (T := TX5) (N := 14) (ci := 5) cx hiX5 0 8 (by decide) rfl (by decide +kernel) rfl rfl dX5_sees_16 ?_
    refine g_iald cx 5 rfl rfl (vp_in_nI (by omega) (by omega)) (by rw [nI_clamp (by omega)]) dX5_sees_19 ?_
    refine g_iload_n cx dX5_sees_20 rfl ?_
    refine g_icmp_ne (tgt := 28) cx dX5_sees_21 (by decide) (fun z3 => ?_) (fun z3 => absurd ⟨(by omega), gn_eq (a := T at_) (b := ch) (by omega) (by omega) z3⟩ hz)
    have z3 := gn_ne (a := T at_) (b := ch) z3
    refine g_iconst cx dX5_sees_28 kc_i0 ?_
    refine g_istore_n (lv' := [(2, .int (nI 0)), (0, .ref h), (1, .int (nI ch))]) cx dX5_sees_29 rfl (by decide) rfl ?_
    refine g_aload_n cx dX5_sees_30 rfl ?_
    refine g_dup cx dX5_sees_31 rfl ?_
    refine g_get (C := RX5) (T := TX5) (N := 14) (ci := 5) cx hiX5 0 8 (by decide) rfl (by decide +kernel) rfl rfl dX5_sees_32 ?_
    refine g_iload_n cx dX5_sees_35 rfl ?_
    refine g_if_eq (tgt := 43) cx dX5_sees_36 (by decide) (fun z4 => ?_) (fun z4 => absurd z4 (by decide +kernel))
    have z4 := gn_eq0 (by omega) z4
    refine g_iconst cx dX5_sees_43 kc_i0 ?_
    refine g_iadd cx dX5_sees_44 ?_
    refine g_top (nI_add at_ 0) ?_
    refine g_put (ws' := [(h, .inr (5, [.ref an, .ref ap_, .ref asl, .ref ah, .int (nI hN), .ref ax, .int (nI tyN), .int th, .int (nI (at_ + 0)), .ref atd, .int (nI tlN), .ref av, .ref ae, .int go])), (an, .inl (E.2.1 0, 67, .inl nw)), (ap_, .inl (E.2.1 0, 402, .inl ps)), (asl, .inl (E.2.1 0, 134, .inl sl)), (ah, .inl (E.2.1 0, 2, .inl hsl)), (ax, .inl (E.2.1 0, 80, .inl (fun j => nI (T j)))), (atd, .inl (E.2.1 0, 123, .inl td)), (av, .inl (E.2.1 0, 64, .inl va)), (ae, .inl (E.2.1 0, 64, .inl er))]) (C := RX5) (T := TX5) (N := 14) (ci := 5) cx hiX5 tyX5 tyX5_ok nmX5 0 8 (by decide) rfl (by decide +kernel) rfl rfl rfl rfl rfl (Nat.le_of_ble_eq_true rfl) rfl dX5_sees_45 ?_
    refine g_iload_n cx dX5_sees_48 rfl ?_
    exact g_zretE cx (by decide +kernel) dX5_sees_49 (rfl) (gB_f)
set_option maxRecDepth 100000 in
set_option maxHeartbeats 4000000 in
theorem c_X5_number_n (l : Launch) (E : gEnv) (h : Nat) (an : Nat) (ap_ : Nat) (asl : Nat) (ah : Nat) (ax : Nat) (atd : Nat) (av : Nat) (ae : Nat) (nw : Nat → Int32) (ps : Nat → Int32) (sl : Nat → Int32) (hsl : Nat → Int32) (td : Nat → Int32) (va : Nat → Int32) (er : Nat → Int32) (T : Nat → Nat) (hN : Nat) (tyN : Nat) (at_ : Nat) (tlN : Nat) (th : Int32) (go : Int32) (most : Nat) (hz : ¬ (at_ < tyN ∧ bR (nI (T at_)) 48 57 = true)) (ha : at_ ≤ tyN) (hty : tyN ≤ 80) (hT : ∀ j, T j < 128) : gM l yX5_number wsX5_number ({ frames := 1, cells := 0, slots := 0, locals := 22 } : Room) E [.ref h, .int (nI most)] [(h, .inr (5, [.ref an, .ref ap_, .ref asl, .ref ah, .int (nI hN), .ref ax, .int (nI tyN), .int th, .int (nI at_), .ref atd, .int (nI tlN), .ref av, .ref ae, .int go])), (an, .inl (E.2.1 0, 67, .inl nw)), (ap_, .inl (E.2.1 0, 402, .inl ps)), (asl, .inl (E.2.1 0, 134, .inl sl)), (ah, .inl (E.2.1 0, 2, .inl hsl)), (ax, .inl (E.2.1 0, 80, .inl (fun j => nI (T j)))), (atd, .inl (E.2.1 0, 123, .inl td)), (av, .inl (E.2.1 0, 64, .inl va)), (ae, .inl (E.2.1 0, 64, .inl er))] [(h, .inr (5, [.ref an, .ref ap_, .ref asl, .ref ah, .int (nI hN), .ref ax, .int (nI tyN), .int th, .int (nI at_), .ref atd, .int (nI tlN), .ref av, .ref ae, .int go])), (an, .inl (E.2.1 0, 67, .inl nw)), (ap_, .inl (E.2.1 0, 402, .inl ps)), (asl, .inl (E.2.1 0, 134, .inl sl)), (ah, .inl (E.2.1 0, 2, .inl hsl)), (ax, .inl (E.2.1 0, 80, .inl (fun j => nI (T j)))), (atd, .inl (E.2.1 0, 123, .inl td)), (av, .inl (E.2.1 0, 64, .inl va)), (ae, .inl (E.2.1 0, 64, .inl er))] (some (.int (-1))) := by
  refine gM.ofG (cc := cX5_number) (nL := 3) (ret := (some .int)) (own := RX5) [(0, .ref h), (1, .int (nI most))] (by decide) rfl rfl (Nat.le_of_ble_eq_true rfl) rfl rfl ?_
  intro pX eX sX mX bX tX cX A cx
  have hiX5 : ∀ w ∈ u_ws RX5 TX5 14, w ∈ wsX5_number := by decide +kernel
  have hTa := hT at_
  refine g_aload_n cx dX5_number_0 rfl ?_
  refine g_get (C := RX5) (T := TX5) (N := 14) (ci := 5) cx hiX5 0 8 (by decide) rfl (by decide +kernel) rfl rfl dX5_number_1 ?_
  refine g_aload_n cx dX5_number_4 rfl ?_
  refine g_get (C := RX5) (T := TX5) (N := 14) (ci := 5) cx hiX5 0 6 (by decide) rfl (by decide +kernel) rfl rfl dX5_number_5 ?_
  refine g_icmp_eq (tgt := 30) cx dX5_number_8 (by decide) (fun z1 => ?_) (fun z1 => ?_)
  ·
    have z1 := gn_eq (a := at_) (b := tyN) (by omega) (by omega) z1
    refine g_iconst cx dX5_number_30 kc_im1 ?_
    exact g_iretE cx dX5_number_31 (rfl) (rfl)
  ·
    have z1 := gn_ne (a := at_) (b := tyN) z1
    refine g_aload_n cx dX5_number_11 rfl ?_
    refine g_get (C := RX5) (T := TX5) (N := 14) (ci := 5) cx hiX5 0 5 (by decide) rfl (by decide +kernel) rfl rfl dX5_number_12 ?_
    refine g_aload_n cx dX5_number_15 rfl ?_
    refine g_get (C := RX5) (T := TX5) (N := 14) (ci := 5) cx hiX5 0 8 (by decide) rfl (by decide +kernel) rfl rfl dX5_number_16 ?_
    refine g_iald cx 5 rfl rfl (vp_in_nI (by omega) (by omega)) (by rw [nI_clamp (by omega)]) dX5_number_19 ?_
    refine g_bipush cx dX5_number_20 kc_b48 ?_
    refine g_bipush cx dX5_number_22 kc_b57 ?_
    refine g_callS (ws' := [(h, .inr (5, [.ref an, .ref ap_, .ref asl, .ref ah, .int (nI hN), .ref ax, .int (nI tyN), .int th, .int (nI at_), .ref atd, .int (nI tlN), .ref av, .ref ae, .int go])), (an, .inl (E.2.1 0, 67, .inl nw)), (ap_, .inl (E.2.1 0, 402, .inl ps)), (asl, .inl (E.2.1 0, 134, .inl sl)), (ah, .inl (E.2.1 0, 2, .inl hsl)), (ax, .inl (E.2.1 0, 80, .inl (fun j => nI (T j)))), (atd, .inl (E.2.1 0, 123, .inl td)), (av, .inl (E.2.1 0, 64, .inl va)), (ae, .inl (E.2.1 0, 64, .inl er))]) (As := [.int (nI (T at_)), .int (nI 48), .int (nI 57)]) (rest := []) (n := 3) cx (c_X5_in l E (nI (T at_)) 48 57 (by omega) (by omega)) gX5_number_X5_in rfl (by decide +kernel) rfl rfl ⟨Nat.le_of_ble_eq_true rfl, Nat.le_of_ble_eq_true rfl⟩ ⟨Nat.zero_le _, Nat.zero_le _⟩ [] (by decide) rfl rfl rfl rfl (Nat.le_of_ble_eq_true rfl) dX5_number_24 ?_
    refine g_if_ne (tgt := 32) cx dX5_number_27 (by decide) (fun z2 => absurd ⟨(by omega), gB_ne0 z2⟩ hz) (fun z2 => ?_)
    have z2 := gB_eq0 z2
    refine g_iconst cx dX5_number_30 kc_im1 ?_
    exact g_iretE cx dX5_number_31 (rfl) (rfl)
set_option maxRecDepth 100000 in
set_option maxHeartbeats 4000000 in
theorem c_X5_number_y (l : Launch) (E : gEnv) (h : Nat) (an : Nat) (ap_ : Nat) (asl : Nat) (ah : Nat) (ax : Nat) (atd : Nat) (av : Nat) (ae : Nat) (nw : Nat → Int32) (ps : Nat → Int32) (sl : Nat → Int32) (hsl : Nat → Int32) (td : Nat → Int32) (va : Nat → Int32) (er : Nat → Int32) (T : Nat → Nat) (hN : Nat) (tyN : Nat) (at_ : Nat) (tlN : Nat) (th : Int32) (go : Int32) (most : Nat) (ha : at_ < tyN) (hb : bR (nI (T at_)) 48 57 = true) (hm9 : 9 ≤ most) (hm : most ≤ 999) (hty : tyN ≤ 80) (hT : ∀ j, T j < 128) : gM l yX5_number wsX5_number ({ frames := 1, cells := 0, slots := 0, locals := 22 } : Room) E [.ref h, .int (nI most)] [(h, .inr (5, [.ref an, .ref ap_, .ref asl, .ref ah, .int (nI hN), .ref ax, .int (nI tyN), .int th, .int (nI at_), .ref atd, .int (nI tlN), .ref av, .ref ae, .int go])), (an, .inl (E.2.1 0, 67, .inl nw)), (ap_, .inl (E.2.1 0, 402, .inl ps)), (asl, .inl (E.2.1 0, 134, .inl sl)), (ah, .inl (E.2.1 0, 2, .inl hsl)), (ax, .inl (E.2.1 0, 80, .inl (fun j => nI (T j)))), (atd, .inl (E.2.1 0, 123, .inl td)), (av, .inl (E.2.1 0, 64, .inl va)), (ae, .inl (E.2.1 0, 64, .inl er))] [(h, .inr (5, [.ref an, .ref ap_, .ref asl, .ref ah, .int (nI hN), .ref ax, .int (nI tyN), .int th, .int (nI ((nm1 T tyN most at_).2)), .ref atd, .int (nI tlN), .ref av, .ref ae, .int go])), (an, .inl (E.2.1 0, 67, .inl nw)), (ap_, .inl (E.2.1 0, 402, .inl ps)), (asl, .inl (E.2.1 0, 134, .inl sl)), (ah, .inl (E.2.1 0, 2, .inl hsl)), (ax, .inl (E.2.1 0, 80, .inl (fun j => nI (T j)))), (atd, .inl (E.2.1 0, 123, .inl td)), (av, .inl (E.2.1 0, 64, .inl va)), (ae, .inl (E.2.1 0, 64, .inl er))] (some (.int (nI ((nm1 T tyN most at_).1)))) := by
  refine gM.ofG (cc := cX5_number) (nL := 3) (ret := (some .int)) (own := RX5) [(0, .ref h), (1, .int (nI most))] (by decide) rfl rfl (Nat.le_of_ble_eq_true rfl) rfl rfl ?_
  intro pX eX sX mX bX tX cX A cx
  have hiX5 : ∀ w ∈ u_ws RX5 TX5 14, w ∈ wsX5_number := by decide +kernel
  have hTa := hT at_
  refine g_aload_n cx dX5_number_0 rfl ?_
  refine g_get (C := RX5) (T := TX5) (N := 14) (ci := 5) cx hiX5 0 8 (by decide) rfl (by decide +kernel) rfl rfl dX5_number_1 ?_
  refine g_aload_n cx dX5_number_4 rfl ?_
  refine g_get (C := RX5) (T := TX5) (N := 14) (ci := 5) cx hiX5 0 6 (by decide) rfl (by decide +kernel) rfl rfl dX5_number_5 ?_
  refine g_icmp_eq (tgt := 30) cx dX5_number_8 (by decide) (fun z1 => absurd (gn_eq (a := at_) (b := tyN) (by omega) (by omega) z1) (by omega)) (fun z1 => ?_)
  have z1 := gn_ne (a := at_) (b := tyN) z1
  refine g_aload_n cx dX5_number_11 rfl ?_
  refine g_get (C := RX5) (T := TX5) (N := 14) (ci := 5) cx hiX5 0 5 (by decide) rfl (by decide +kernel) rfl rfl dX5_number_12 ?_
  refine g_aload_n cx dX5_number_15 rfl ?_
  refine g_get (C := RX5) (T := TX5) (N := 14) (ci := 5) cx hiX5 0 8 (by decide) rfl (by decide +kernel) rfl rfl dX5_number_16 ?_
  refine g_iald cx 5 rfl rfl (vp_in_nI (by omega) (by omega)) (by rw [nI_clamp (by omega)]) dX5_number_19 ?_
  refine g_bipush cx dX5_number_20 kc_b48 ?_
  refine g_bipush cx dX5_number_22 kc_b57 ?_
  refine g_callS (ws' := [(h, .inr (5, [.ref an, .ref ap_, .ref asl, .ref ah, .int (nI hN), .ref ax, .int (nI tyN), .int th, .int (nI at_), .ref atd, .int (nI tlN), .ref av, .ref ae, .int go])), (an, .inl (E.2.1 0, 67, .inl nw)), (ap_, .inl (E.2.1 0, 402, .inl ps)), (asl, .inl (E.2.1 0, 134, .inl sl)), (ah, .inl (E.2.1 0, 2, .inl hsl)), (ax, .inl (E.2.1 0, 80, .inl (fun j => nI (T j)))), (atd, .inl (E.2.1 0, 123, .inl td)), (av, .inl (E.2.1 0, 64, .inl va)), (ae, .inl (E.2.1 0, 64, .inl er))]) (As := [.int (nI (T at_)), .int (nI 48), .int (nI 57)]) (rest := []) (n := 3) cx (c_X5_in l E (nI (T at_)) 48 57 (by first | omega | exact hT _) (by first | omega | exact hT _)) gX5_number_X5_in rfl (by decide +kernel) rfl rfl ⟨Nat.le_of_ble_eq_true rfl, Nat.le_of_ble_eq_true rfl⟩ ⟨Nat.zero_le _, Nat.zero_le _⟩ [] (by decide) rfl rfl rfl rfl (Nat.le_of_ble_eq_true rfl) dX5_number_24 ?_
  refine g_if_ne (tgt := 32) cx dX5_number_27 (by decide) (fun z2 => ?_) (fun z2 => absurd ((hb : bR (nI (T at_)) 48 57 = true).symm.trans (gB_eq0 z2)) (by decide))
  have z2 := gB_ne0 z2
  have hd9 := bR_N (t := T at_) (by omega) hb
  refine g_aload_n cx dX5_number_32 rfl ?_
  refine g_get (C := RX5) (T := TX5) (N := 14) (ci := 5) cx hiX5 0 5 (by decide) rfl (by decide +kernel) rfl rfl dX5_number_33 ?_
  refine g_aload_n cx dX5_number_36 rfl ?_
  refine g_get (C := RX5) (T := TX5) (N := 14) (ci := 5) cx hiX5 0 8 (by decide) rfl (by decide +kernel) rfl rfl dX5_number_37 ?_
  refine g_iald cx 5 rfl rfl (vp_in_nI (by omega) (by omega)) (by rw [nI_clamp (by omega)]) dX5_number_40 ?_
  refine g_bipush cx dX5_number_41 kc_b48 ?_
  refine g_isub cx dX5_number_43 ?_
  refine g_top (pk_sub (a := T at_) (b := 48) (by omega)) ?_
  refine g_istore_n (lv' := [(2, .int (nI ((T at_) - 48))), (0, .ref h), (1, .int (nI most))]) cx dX5_number_44 rfl (by decide) rfl ?_
  refine g_aload_n cx dX5_number_45 rfl ?_
  refine g_dup cx dX5_number_46 rfl ?_
  refine g_get (C := RX5) (T := TX5) (N := 14) (ci := 5) cx hiX5 0 8 (by decide) rfl (by decide +kernel) rfl rfl dX5_number_47 ?_
  refine g_iconst cx dX5_number_50 kc_i1 ?_
  refine g_iadd cx dX5_number_51 ?_
  refine g_top (nI_add at_ 1) ?_
  refine g_put (ws' := [(h, .inr (5, [.ref an, .ref ap_, .ref asl, .ref ah, .int (nI hN), .ref ax, .int (nI tyN), .int th, .int (nI (at_ + 1)), .ref atd, .int (nI tlN), .ref av, .ref ae, .int go])), (an, .inl (E.2.1 0, 67, .inl nw)), (ap_, .inl (E.2.1 0, 402, .inl ps)), (asl, .inl (E.2.1 0, 134, .inl sl)), (ah, .inl (E.2.1 0, 2, .inl hsl)), (ax, .inl (E.2.1 0, 80, .inl (fun j => nI (T j)))), (atd, .inl (E.2.1 0, 123, .inl td)), (av, .inl (E.2.1 0, 64, .inl va)), (ae, .inl (E.2.1 0, 64, .inl er))]) (C := RX5) (T := TX5) (N := 14) (ci := 5) cx hiX5 tyX5 tyX5_ok nmX5 0 8 (by decide) rfl (by decide +kernel) rfl rfl rfl rfl rfl (Nat.le_of_ble_eq_true rfl) rfl dX5_number_52 ?_
  have L55 : ∀ (n_ : Nat) (a : Nat) (v : Nat), tyN - a < n_ → a ≤ tyN → v ≤ most → nlp T tyN most (tyN - a) a v = nm1 T tyN most at_ → gG pX l eX ({ frames := 1, cells := 0, slots := 0, locals := 22 } : Room) sX mX ([.ref h, .int (nI most)] : List Value).toArray bX tX cX 3 E A (MQ bX (gQ E [(h, .inr (5, [.ref an, .ref ap_, .ref asl, .ref ah, .int (nI hN), .ref ax, .int (nI tyN), .int th, .int (nI ((nm1 T tyN most at_).2)), .ref atd, .int (nI tlN), .ref av, .ref ae, .int go])), (an, .inl (E.2.1 0, 67, .inl nw)), (ap_, .inl (E.2.1 0, 402, .inl ps)), (asl, .inl (E.2.1 0, 134, .inl sl)), (ah, .inl (E.2.1 0, 2, .inl hsl)), (ax, .inl (E.2.1 0, 80, .inl (fun j => nI (T j)))), (atd, .inl (E.2.1 0, 123, .inl td)), (av, .inl (E.2.1 0, 64, .inl va)), (ae, .inl (E.2.1 0, 64, .inl er))] (some (.int (nI ((nm1 T tyN most at_).1)))) A) ([.ref h, .int (nI most)] : List Value).toArray sX 0 0 A) 0 0 [(h, .inr (5, [.ref an, .ref ap_, .ref asl, .ref ah, .int (nI hN), .ref ax, .int (nI tyN), .int th, .int (nI a), .ref atd, .int (nI tlN), .ref av, .ref ae, .int go])), (an, .inl (E.2.1 0, 67, .inl nw)), (ap_, .inl (E.2.1 0, 402, .inl ps)), (asl, .inl (E.2.1 0, 134, .inl sl)), (ah, .inl (E.2.1 0, 2, .inl hsl)), (ax, .inl (E.2.1 0, 80, .inl (fun j => nI (T j)))), (atd, .inl (E.2.1 0, 123, .inl td)), (av, .inl (E.2.1 0, 64, .inl va)), (ae, .inl (E.2.1 0, 64, .inl er))] [(0, .ref h), (1, .int (nI most)), (2, .int (nI v))] [] 55 := by
    intro n_
    induction n_ with
    | zero => intro a v hm_; exact absurd hm_ (Nat.not_lt_zero _)
    | succ n_ ih_L55 =>
      intro a v hm_ ha9 hv he
      have hTa := hT a
      refine g_iload_n cx dX5_number_55 rfl ?_
      refine g_if_le (tgt := 141) cx dX5_number_56 (by decide) (fun z3 => ?_) (fun z3 => ?_)
      ·
        have z3 := gn_le (a := v) (b := 0) (by omega) (by omega) z3
        refine g_iload_n cx dX5_number_141 rfl ?_
        exact g_iretE cx dX5_number_142 (by rw [← he, nlp_stop (by rintro ⟨z1, z2, z3, z4⟩; first | omega | simp_all)] <;> rfl) (by rw [← he, nlp_stop (by rintro ⟨z1, z2, z3, z4⟩; first | omega | simp_all)] <;> rfl)
      ·
        have z3 := gn_nle (a := v) (b := 0) (by omega) (by omega) z3
        refine g_aload_n cx dX5_number_59 rfl ?_
        refine g_get (C := RX5) (T := TX5) (N := 14) (ci := 5) cx hiX5 0 8 (by decide) rfl (by decide +kernel) rfl rfl dX5_number_60 ?_
        refine g_aload_n cx dX5_number_63 rfl ?_
        refine g_get (C := RX5) (T := TX5) (N := 14) (ci := 5) cx hiX5 0 6 (by decide) rfl (by decide +kernel) rfl rfl dX5_number_64 ?_
        refine g_icmp_ge (tgt := 141) cx dX5_number_67 (by decide) (fun z4 => ?_) (fun z4 => ?_)
        ·
          have z4 := gn_le (a := tyN) (b := a) (by first | omega | exact hT _) (by first | omega | exact hT _) z4
          refine g_iload_n cx dX5_number_141 rfl ?_
          exact g_iretE cx dX5_number_142 (by rw [← he, nlp_stop (by rintro ⟨z1, z2, z3, z4⟩; first | omega | simp_all)] <;> rfl) (by rw [← he, nlp_stop (by rintro ⟨z1, z2, z3, z4⟩; first | omega | simp_all)] <;> rfl)
        ·
          have z4 := gn_nle (a := tyN) (b := a) (by first | omega | exact hT _) (by first | omega | exact hT _) z4
          refine g_aload_n cx dX5_number_70 rfl ?_
          refine g_get (C := RX5) (T := TX5) (N := 14) (ci := 5) cx hiX5 0 5 (by decide) rfl (by decide +kernel) rfl rfl dX5_number_71 ?_
          refine g_aload_n cx dX5_number_74 rfl ?_
          refine g_get (C := RX5) (T := TX5) (N := 14) (ci := 5) cx hiX5 0 8 (by decide) rfl (by decide +kernel) rfl rfl dX5_number_75 ?_
          refine g_iald cx 5 rfl rfl (vp_in_nI (by omega) (by omega)) (by rw [nI_clamp (by omega)]) dX5_number_78 ?_
          refine g_bipush cx dX5_number_79 kc_b48 ?_
          refine g_bipush cx dX5_number_81 kc_b57 ?_
          refine g_callS (ws' := [(h, .inr (5, [.ref an, .ref ap_, .ref asl, .ref ah, .int (nI hN), .ref ax, .int (nI tyN), .int th, .int (nI a), .ref atd, .int (nI tlN), .ref av, .ref ae, .int go])), (an, .inl (E.2.1 0, 67, .inl nw)), (ap_, .inl (E.2.1 0, 402, .inl ps)), (asl, .inl (E.2.1 0, 134, .inl sl)), (ah, .inl (E.2.1 0, 2, .inl hsl)), (ax, .inl (E.2.1 0, 80, .inl (fun j => nI (T j)))), (atd, .inl (E.2.1 0, 123, .inl td)), (av, .inl (E.2.1 0, 64, .inl va)), (ae, .inl (E.2.1 0, 64, .inl er))]) (As := [.int (nI (T a)), .int (nI 48), .int (nI 57)]) (rest := []) (n := 3) cx (c_X5_in l E (nI (T a)) 48 57 (by first | omega | exact hT _) (by first | omega | exact hT _)) gX5_number_X5_in rfl (by decide +kernel) rfl rfl ⟨Nat.le_of_ble_eq_true rfl, Nat.le_of_ble_eq_true rfl⟩ ⟨Nat.zero_le _, Nat.zero_le _⟩ [] (by decide) rfl rfl rfl rfl (Nat.le_of_ble_eq_true rfl) dX5_number_83 ?_
          refine g_if_eq (tgt := 141) cx dX5_number_86 (by decide) (fun z5 => ?_) (fun z5 => ?_)
          ·
            have z5 := gB_eq0 z5
            refine g_iload_n cx dX5_number_141 rfl ?_
            exact g_iretE cx dX5_number_142 (by rw [← he, nlp_stop (by rintro ⟨z1, z2, z3, z4⟩; first | omega | simp_all)] <;> rfl) (by rw [← he, nlp_stop (by rintro ⟨z1, z2, z3, z4⟩; first | omega | simp_all)] <;> rfl)
          ·
            have z5 := gB_ne0 z5
            have hd9 := bR_N (t := T a) (by omega) z5
            refine g_bipush cx dX5_number_89 kc_b10 ?_
            refine g_iload_n cx dX5_number_91 rfl ?_
            refine g_imul cx dX5_number_92 ?_
            refine g_top (pk_mul 10 v) ?_
            refine g_aload_n cx dX5_number_93 rfl ?_
            refine g_get (C := RX5) (T := TX5) (N := 14) (ci := 5) cx hiX5 0 5 (by decide) rfl (by decide +kernel) rfl rfl dX5_number_94 ?_
            refine g_aload_n cx dX5_number_97 rfl ?_
            refine g_get (C := RX5) (T := TX5) (N := 14) (ci := 5) cx hiX5 0 8 (by decide) rfl (by decide +kernel) rfl rfl dX5_number_98 ?_
            refine g_iald cx 5 rfl rfl (vp_in_nI (by omega) (by omega)) (by rw [nI_clamp (by omega)]) dX5_number_101 ?_
            refine g_iadd cx dX5_number_102 ?_
            refine g_top (nI_add (10 * v) (T a)) ?_
            refine g_bipush cx dX5_number_103 kc_b48 ?_
            refine g_isub cx dX5_number_105 ?_
            refine g_top (pk_sub (a := (10 * v) + (T a)) (b := 48) (by omega)) ?_
            refine g_iload_n cx dX5_number_106 rfl ?_
            refine g_icmp_gt (tgt := 141) cx dX5_number_107 (by decide) (fun z6 => ?_) (fun z6 => ?_)
            ·
              have z6 := gn_lt (a := most) (b := ((10 * v) + (T a)) - 48) (by first | omega | exact hT _) (by first | omega | exact hT _) z6
              refine g_iload_n cx dX5_number_141 rfl ?_
              exact g_iretE cx dX5_number_142 (by rw [← he, nlp_stop (by rintro ⟨z1, z2, z3, z4⟩; first | omega | simp_all)] <;> rfl) (by rw [← he, nlp_stop (by rintro ⟨z1, z2, z3, z4⟩; first | omega | simp_all)] <;> rfl)
            ·
              have z6 := gn_nlt (a := most) (b := ((10 * v) + (T a)) - 48) (by first | omega | exact hT _) (by first | omega | exact hT _) z6
              refine g_bipush cx dX5_number_110 kc_b10 ?_
              refine g_iload_n cx dX5_number_112 rfl ?_
              refine g_imul cx dX5_number_113 ?_
              refine g_top (pk_mul 10 v) ?_
              refine g_aload_n cx dX5_number_114 rfl ?_
              refine g_get (C := RX5) (T := TX5) (N := 14) (ci := 5) cx hiX5 0 5 (by decide) rfl (by decide +kernel) rfl rfl dX5_number_115 ?_
              refine g_aload_n cx dX5_number_118 rfl ?_
              refine g_get (C := RX5) (T := TX5) (N := 14) (ci := 5) cx hiX5 0 8 (by decide) rfl (by decide +kernel) rfl rfl dX5_number_119 ?_
              refine g_iald cx 5 rfl rfl (vp_in_nI (by omega) (by omega)) (by rw [nI_clamp (by omega)]) dX5_number_122 ?_
              refine g_iadd cx dX5_number_123 ?_
              refine g_top (nI_add (10 * v) (T a)) ?_
              refine g_bipush cx dX5_number_124 kc_b48 ?_
              refine g_isub cx dX5_number_126 ?_
              refine g_top (pk_sub (a := (10 * v) + (T a)) (b := 48) (by omega)) ?_
              refine g_istore_n (lv' := [(2, .int (nI (((10 * v) + (T a)) - 48))), (0, .ref h), (1, .int (nI most))]) cx dX5_number_127 rfl (by decide) rfl ?_
              refine g_aload_n cx dX5_number_128 rfl ?_
              refine g_dup cx dX5_number_129 rfl ?_
              refine g_get (C := RX5) (T := TX5) (N := 14) (ci := 5) cx hiX5 0 8 (by decide) rfl (by decide +kernel) rfl rfl dX5_number_130 ?_
              refine g_iconst cx dX5_number_133 kc_i1 ?_
              refine g_iadd cx dX5_number_134 ?_
              refine g_top (nI_add a 1) ?_
              refine g_put (ws' := [(h, .inr (5, [.ref an, .ref ap_, .ref asl, .ref ah, .int (nI hN), .ref ax, .int (nI tyN), .int th, .int (nI (a + 1)), .ref atd, .int (nI tlN), .ref av, .ref ae, .int go])), (an, .inl (E.2.1 0, 67, .inl nw)), (ap_, .inl (E.2.1 0, 402, .inl ps)), (asl, .inl (E.2.1 0, 134, .inl sl)), (ah, .inl (E.2.1 0, 2, .inl hsl)), (ax, .inl (E.2.1 0, 80, .inl (fun j => nI (T j)))), (atd, .inl (E.2.1 0, 123, .inl td)), (av, .inl (E.2.1 0, 64, .inl va)), (ae, .inl (E.2.1 0, 64, .inl er))]) (C := RX5) (T := TX5) (N := 14) (ci := 5) cx hiX5 tyX5 tyX5_ok nmX5 0 8 (by decide) rfl (by decide +kernel) rfl rfl rfl rfl rfl (Nat.le_of_ble_eq_true rfl) rfl dX5_number_135 ?_
              refine g_goto (tgt := 55) cx dX5_number_138 (by decide) ?_
              refine g_lv [1, 2, 0] rfl ?_
              exact ih_L55 (a + 1) (((10 * v) + (T a)) - 48) (by first | omega | exact hT _) (by omega) (by omega) ((nlp_go (by omega) (by omega) (by assumption) (by omega)).symm.trans he)
  refine g_lv [1, 2, 0] rfl ?_
  exact L55 (tyN - (at_ + 1) + 1) (at_ + 1) ((T at_) - 48) (by first | omega | exact hT _) (by omega) (by omega) rfl
set_option maxRecDepth 100000 in
set_option maxHeartbeats 4000000 in
theorem c_X5_command (l : Launch) (E : gEnv) (h : Nat) (an : Nat) (ap_ : Nat) (asl : Nat) (ah : Nat) (ax : Nat) (atd : Nat) (av : Nat) (ae : Nat) (nw : Nat → Int32) (ps : Nat → Int32) (sl : Nat → Int32) (hsl : Nat → Int32) (td : Nat → Int32) (va : Nat → Int32) (er : Nat → Int32) (T : Nat → Nat) (hN : Nat) (tyN : Nat) (at_ : Nat) (tlN : Nat) (th : Int32) (go : Int32) (ha : at_ ≤ tyN) (htl : tlN ≤ 40) (hty : tyN ≤ 80) (hT : ∀ j, T j < 128) : gM l yX5_command wsX5_command ({ frames := 2, cells := 0, slots := 0, locals := 44 } : Room) E [.ref h] [(h, .inr (5, [.ref an, .ref ap_, .ref asl, .ref ah, .int (nI hN), .ref ax, .int (nI tyN), .int th, .int (nI at_), .ref atd, .int (nI tlN), .ref av, .ref ae, .int go])), (an, .inl (E.2.1 0, 67, .inl nw)), (ap_, .inl (E.2.1 0, 402, .inl ps)), (asl, .inl (E.2.1 0, 134, .inl sl)), (ah, .inl (E.2.1 0, 2, .inl hsl)), (ax, .inl (E.2.1 0, 80, .inl (fun j => nI (T j)))), (atd, .inl (E.2.1 0, 123, .inl td)), (av, .inl (E.2.1 0, 64, .inl va)), (ae, .inl (E.2.1 0, 64, .inl er))] [(h, .inr (5, [.ref an, .ref ap_, .ref asl, .ref ah, .int (nI hN), .ref ax, .int (nI tyN), .int th, .int (nI ((cmd T tyN at_).2.1)), .ref atd, .int (nI (tlN + 1)), .ref av, .ref ae, .int go])), (an, .inl (E.2.1 0, 67, .inl nw)), (ap_, .inl (E.2.1 0, 402, .inl ps)), (asl, .inl (E.2.1 0, 134, .inl sl)), (ah, .inl (E.2.1 0, 2, .inl hsl)), (ax, .inl (E.2.1 0, 80, .inl (fun j => nI (T j)))), (atd, .inl (E.2.1 0, 123, .inl (tw td tlN (cmd T tyN at_).2.2))), (av, .inl (E.2.1 0, 64, .inl va)), (ae, .inl (E.2.1 0, 64, .inl er))] (some (.int (gB ((cmd T tyN at_).1)))) := by
  refine gM.ofG (cc := cX5_command) (nL := 5) (ret := (some .boolean)) (own := RX5) [(0, .ref h)] (by decide) rfl rfl (Nat.le_of_ble_eq_true rfl) rfl rfl ?_
  intro pX eX sX mX bX tX cX A cx
  have hiX5 : ∀ w ∈ u_ws RX5 TX5 14, w ∈ wsX5_command := by decide +kernel
  by_cases h103 : at_ < tyN ∧ T at_ = 103
  ·
    by_cases hd1 : at_ + 1 < tyN ∧ bR (nI (T (at_ + 1))) 48 57 = true
    ·
      have hf1 := nm1_f (most := 999) hd1 hT (by omega)
      by_cases he1 : (nm1 T tyN 999 (at_ + 1)).2 < tyN ∧ T (nm1 T tyN 999 (at_ + 1)).2 = 61
      ·
        by_cases hd2 : (nm1 T tyN 999 (at_ + 1)).2 + 1 < tyN ∧ bR (nI (T ((nm1 T tyN 999 (at_ + 1)).2 + 1))) 48 57 = true
        ·
          have hf2 := nm1_f (most := 999) hd2 hT (by omega)
          have hq : cmd T tyN at_ = (true, (nm1 T tyN 999 ((nm1 T tyN 999 (at_ + 1)).2 + 1)).2, 103, nI (nm1 T tyN 999 (at_ + 1)).1, nI (nm1 T tyN 999 ((nm1 T tyN 999 (at_ + 1)).2 + 1)).1) := by unfold cmd; rw [if_pos h103, if_pos hd1, if_pos he1, if_pos hd2]
          refine g_aload_n cx dX5_command_0 rfl ?_
          refine g_bipush cx dX5_command_1 kc_b103 ?_
          refine g_callV (ws' := [(h, .inr (5, [.ref an, .ref ap_, .ref asl, .ref ah, .int (nI hN), .ref ax, .int (nI tyN), .int th, .int (nI (at_ + 1)), .ref atd, .int (nI tlN), .ref av, .ref ae, .int go])), (an, .inl (E.2.1 0, 67, .inl nw)), (ap_, .inl (E.2.1 0, 402, .inl ps)), (asl, .inl (E.2.1 0, 134, .inl sl)), (ah, .inl (E.2.1 0, 2, .inl hsl)), (ax, .inl (E.2.1 0, 80, .inl (fun j => nI (T j)))), (atd, .inl (E.2.1 0, 123, .inl td)), (av, .inl (E.2.1 0, 64, .inl va)), (ae, .inl (E.2.1 0, 64, .inl er))]) (As := [.int (nI 103)]) (rest := []) (n := 1) (T := TX5) (N := 14) (ci := 5) cx (c_X5_sees_t l E h an ap_ asl ah ax atd av ae nw ps sl hsl td va er T hN tyN at_ tlN th go 103 h103.1 h103.2 (by omega) hT) gX5_command_X5_sees rfl (by decide +kernel) rfl rfl ⟨Nat.le_of_ble_eq_true rfl, Nat.le_of_ble_eq_true rfl⟩ ⟨Nat.zero_le _, Nat.zero_le _⟩ [0, 1, 2, 3, 4, 5, 6, 7, 8] 0 rfl rfl (by decide) rfl rfl rfl rfl (Nat.le_of_ble_eq_true rfl) dX5_command_3 ?_
          refine g_if_eq (tgt := 14) cx dX5_command_6 (by decide) (fun z1 => absurd ((rfl : true = true).symm.trans (gB_eq0 z1)) (by decide)) (fun z1 => ?_)
          have z1 := gB_ne0 z1
          refine g_bipush cx dX5_command_9 kc_b103 ?_
          refine g_goto (tgt := 71) cx dX5_command_11 (by decide) ?_
          refine g_istore_n (lv' := [(1, .int (nI 103)), (0, .ref h)]) cx dX5_command_71 rfl (by decide) rfl ?_
          refine g_iload_n cx dX5_command_72 rfl ?_
          refine g_bipush cx dX5_command_73 kc_b105 ?_
          refine g_icmp_eq (tgt := 84) cx dX5_command_75 (by decide) (fun z2 => absurd z2 (by decide +kernel)) (fun z2 => ?_)
          have z2 := gn_ne (a := 103) (b := 105) z2
          refine g_iload_n cx dX5_command_78 rfl ?_
          refine g_bipush cx dX5_command_79 kc_b119 ?_
          refine g_icmp_ne (tgt := 88) cx dX5_command_81 (by decide) (fun z3 => ?_) (fun z3 => absurd z3 (by decide +kernel))
          have z3 := gn_ne (a := 103) (b := 119) z3
          refine g_iconst cx dX5_command_88 kc_i0 ?_
          refine g_istore_n (lv' := [(2, .int (nI 0)), (1, .int (nI 103)), (0, .ref h)]) cx dX5_command_89 rfl (by decide) rfl ?_
          refine g_iload_n cx dX5_command_90 rfl ?_
          refine g_if_ne (tgt := 98) cx dX5_command_91 (by decide) (fun z4 => ?_) (fun z4 => absurd z4 (by decide +kernel))
          have z4 := gn_ne0 z4
          refine g_iload_n cx dX5_command_98 rfl ?_
          refine g_if_eq (tgt := 106) cx dX5_command_99 (by decide) (fun z5 => ?_) (fun z5 => absurd z5 (by decide +kernel))
          have z5 := gn_eq0 (by omega) z5
          refine g_aload_n cx dX5_command_106 rfl ?_
          refine g_iload_n cx dX5_command_107 rfl ?_
          refine g_bipush cx dX5_command_108 kc_b114 ?_
          refine g_icmp_ne (tgt := 118) cx dX5_command_110 (by decide) (fun z6 => ?_) (fun z6 => absurd z6 (by decide +kernel))
          have z6 := gn_ne (a := 103) (b := 114) z6
          refine g_sipush cx dX5_command_118 kc_s999 ?_
          refine g_callV (ws' := [(h, .inr (5, [.ref an, .ref ap_, .ref asl, .ref ah, .int (nI hN), .ref ax, .int (nI tyN), .int th, .int (nI ((nm1 T tyN 999 (at_ + 1)).2)), .ref atd, .int (nI tlN), .ref av, .ref ae, .int go])), (an, .inl (E.2.1 0, 67, .inl nw)), (ap_, .inl (E.2.1 0, 402, .inl ps)), (asl, .inl (E.2.1 0, 134, .inl sl)), (ah, .inl (E.2.1 0, 2, .inl hsl)), (ax, .inl (E.2.1 0, 80, .inl (fun j => nI (T j)))), (atd, .inl (E.2.1 0, 123, .inl td)), (av, .inl (E.2.1 0, 64, .inl va)), (ae, .inl (E.2.1 0, 64, .inl er))]) (As := [.int (nI 999)]) (rest := []) (n := 1) (T := TX5) (N := 14) (ci := 5) cx (c_X5_number_y l E h an ap_ asl ah ax atd av ae nw ps sl hsl td va er T hN tyN (at_ + 1) tlN th go 999 hd1.1 hd1.2 (by omega) (by omega) (by omega) hT) gX5_command_X5_number rfl (by decide +kernel) rfl rfl ⟨Nat.le_of_ble_eq_true rfl, Nat.le_of_ble_eq_true rfl⟩ ⟨Nat.zero_le _, Nat.zero_le _⟩ [0, 1, 2, 3, 4, 5, 6, 7, 8] 0 rfl rfl (by decide) rfl rfl rfl rfl (Nat.le_of_ble_eq_true rfl) dX5_command_121 ?_
          refine g_istore_n (lv' := [(3, .int (nI ((nm1 T tyN 999 (at_ + 1)).1))), (2, .int (nI 0)), (1, .int (nI 103)), (0, .ref h)]) cx dX5_command_124 rfl (by decide) rfl ?_
          refine g_iload_n cx dX5_command_125 rfl ?_
          refine g_bipush cx dX5_command_126 kc_b103 ?_
          refine g_icmp_eq (tgt := 135) cx dX5_command_128 (by decide) (fun z7 => ?_) (fun z7 => absurd z7 (by decide +kernel))
          have z7 := gn_eq (a := 103) (b := 103) (by omega) (by omega) z7
          refine g_iload_n cx dX5_command_135 rfl ?_
          refine g_if_lt (tgt := 158) cx dX5_command_136 (by decide) (fun z8 => absurd z8 (nI_pos (by omega))) (fun z8 => ?_)
          have z8 := gn_nlt (a := (nm1 T tyN 999 (at_ + 1)).1) (b := 0) (by omega) (by omega) z8
          refine g_aload_n cx dX5_command_139 rfl ?_
          refine g_bipush cx dX5_command_140 kc_b61 ?_
          refine g_callV (ws' := [(h, .inr (5, [.ref an, .ref ap_, .ref asl, .ref ah, .int (nI hN), .ref ax, .int (nI tyN), .int th, .int (nI (((nm1 T tyN 999 (at_ + 1)).2) + 1)), .ref atd, .int (nI tlN), .ref av, .ref ae, .int go])), (an, .inl (E.2.1 0, 67, .inl nw)), (ap_, .inl (E.2.1 0, 402, .inl ps)), (asl, .inl (E.2.1 0, 134, .inl sl)), (ah, .inl (E.2.1 0, 2, .inl hsl)), (ax, .inl (E.2.1 0, 80, .inl (fun j => nI (T j)))), (atd, .inl (E.2.1 0, 123, .inl td)), (av, .inl (E.2.1 0, 64, .inl va)), (ae, .inl (E.2.1 0, 64, .inl er))]) (As := [.int (nI 61)]) (rest := []) (n := 1) (T := TX5) (N := 14) (ci := 5) cx (c_X5_sees_t l E h an ap_ asl ah ax atd av ae nw ps sl hsl td va er T hN tyN ((nm1 T tyN 999 (at_ + 1)).2) tlN th go 61 he1.1 he1.2 (by omega) hT) gX5_command_X5_sees rfl (by decide +kernel) rfl rfl ⟨Nat.le_of_ble_eq_true rfl, Nat.le_of_ble_eq_true rfl⟩ ⟨Nat.zero_le _, Nat.zero_le _⟩ [0, 1, 2, 3, 4, 5, 6, 7, 8] 0 rfl rfl (by decide) rfl rfl rfl rfl (Nat.le_of_ble_eq_true rfl) dX5_command_142 ?_
          refine g_if_eq (tgt := 158) cx dX5_command_145 (by decide) (fun z9 => absurd ((rfl : true = true).symm.trans (gB_eq0 z9)) (by decide)) (fun z9 => ?_)
          have z9 := gB_ne0 z9
          refine g_aload_n cx dX5_command_148 rfl ?_
          refine g_sipush cx dX5_command_149 kc_s999 ?_
          refine g_callV (ws' := [(h, .inr (5, [.ref an, .ref ap_, .ref asl, .ref ah, .int (nI hN), .ref ax, .int (nI tyN), .int th, .int (nI ((nm1 T tyN 999 (((nm1 T tyN 999 (at_ + 1)).2) + 1)).2)), .ref atd, .int (nI tlN), .ref av, .ref ae, .int go])), (an, .inl (E.2.1 0, 67, .inl nw)), (ap_, .inl (E.2.1 0, 402, .inl ps)), (asl, .inl (E.2.1 0, 134, .inl sl)), (ah, .inl (E.2.1 0, 2, .inl hsl)), (ax, .inl (E.2.1 0, 80, .inl (fun j => nI (T j)))), (atd, .inl (E.2.1 0, 123, .inl td)), (av, .inl (E.2.1 0, 64, .inl va)), (ae, .inl (E.2.1 0, 64, .inl er))]) (As := [.int (nI 999)]) (rest := []) (n := 1) (T := TX5) (N := 14) (ci := 5) cx (c_X5_number_y l E h an ap_ asl ah ax atd av ae nw ps sl hsl td va er T hN tyN (((nm1 T tyN 999 (at_ + 1)).2) + 1) tlN th go 999 hd2.1 hd2.2 (by omega) (by omega) (by omega) hT) gX5_command_X5_number rfl (by decide +kernel) rfl rfl ⟨Nat.le_of_ble_eq_true rfl, Nat.le_of_ble_eq_true rfl⟩ ⟨Nat.zero_le _, Nat.zero_le _⟩ [0, 1, 2, 3, 4, 5, 6, 7, 8] 0 rfl rfl (by decide) rfl rfl rfl rfl (Nat.le_of_ble_eq_true rfl) dX5_command_152 ?_
          refine g_goto (tgt := 159) cx dX5_command_155 (by decide) ?_
          refine g_istore (lv' := [(4, .int (nI ((nm1 T tyN 999 (((nm1 T tyN 999 (at_ + 1)).2) + 1)).1))), (3, .int (nI ((nm1 T tyN 999 (at_ + 1)).1))), (2, .int (nI 0)), (1, .int (nI 103)), (0, .ref h)]) cx dX5_command_159 (by decide) rfl ?_
          refine g_aload_n cx dX5_command_161 rfl ?_
          refine g_get (C := RX5) (T := TX5) (N := 14) (ci := 5) cx hiX5 0 9 (by decide) rfl (by decide +kernel) rfl rfl dX5_command_162 ?_
          refine g_iconst cx dX5_command_165 kc_i3 ?_
          refine g_aload_n cx dX5_command_166 rfl ?_
          refine g_get (C := RX5) (T := TX5) (N := 14) (ci := 5) cx hiX5 0 10 (by decide) rfl (by decide +kernel) rfl rfl dX5_command_167 ?_
          refine g_imul cx dX5_command_170 ?_
          refine g_top (pk_mul 3 tlN) ?_
          refine g_iload_n cx dX5_command_171 rfl ?_
          refine g_iast (ws' := [(h, .inr (5, [.ref an, .ref ap_, .ref asl, .ref ah, .int (nI hN), .ref ax, .int (nI tyN), .int th, .int (nI ((nm1 T tyN 999 (((nm1 T tyN 999 (at_ + 1)).2) + 1)).2)), .ref atd, .int (nI tlN), .ref av, .ref ae, .int go])), (an, .inl (E.2.1 0, 67, .inl nw)), (ap_, .inl (E.2.1 0, 402, .inl ps)), (asl, .inl (E.2.1 0, 134, .inl sl)), (ah, .inl (E.2.1 0, 2, .inl hsl)), (ax, .inl (E.2.1 0, 80, .inl (fun j => nI (T j)))), (atd, .inl (E.2.1 0, 123, .inl (upd td (3 * tlN) (nI 103)))), (av, .inl (E.2.1 0, 64, .inl va)), (ae, .inl (E.2.1 0, 64, .inl er))]) cx 6 rfl rfl (vp_in_nI (by omega) (by omega)) (by rw [nI_clamp (by omega)]; rfl) dX5_command_172 ?_
          refine g_aload_n cx dX5_command_173 rfl ?_
          refine g_get (C := RX5) (T := TX5) (N := 14) (ci := 5) cx hiX5 0 9 (by decide) rfl (by decide +kernel) rfl rfl dX5_command_174 ?_
          refine g_iconst cx dX5_command_177 kc_i3 ?_
          refine g_aload_n cx dX5_command_178 rfl ?_
          refine g_get (C := RX5) (T := TX5) (N := 14) (ci := 5) cx hiX5 0 10 (by decide) rfl (by decide +kernel) rfl rfl dX5_command_179 ?_
          refine g_imul cx dX5_command_182 ?_
          refine g_top (pk_mul 3 tlN) ?_
          refine g_iconst cx dX5_command_183 kc_i1 ?_
          refine g_iadd cx dX5_command_184 ?_
          refine g_top (nI_add (3 * tlN) 1) ?_
          refine g_iload_n cx dX5_command_185 rfl ?_
          refine g_iast (ws' := [(h, .inr (5, [.ref an, .ref ap_, .ref asl, .ref ah, .int (nI hN), .ref ax, .int (nI tyN), .int th, .int (nI ((nm1 T tyN 999 (((nm1 T tyN 999 (at_ + 1)).2) + 1)).2)), .ref atd, .int (nI tlN), .ref av, .ref ae, .int go])), (an, .inl (E.2.1 0, 67, .inl nw)), (ap_, .inl (E.2.1 0, 402, .inl ps)), (asl, .inl (E.2.1 0, 134, .inl sl)), (ah, .inl (E.2.1 0, 2, .inl hsl)), (ax, .inl (E.2.1 0, 80, .inl (fun j => nI (T j)))), (atd, .inl (E.2.1 0, 123, .inl (upd (upd td (3 * tlN) (nI 103)) ((3 * tlN) + 1) (nI ((nm1 T tyN 999 (at_ + 1)).1))))), (av, .inl (E.2.1 0, 64, .inl va)), (ae, .inl (E.2.1 0, 64, .inl er))]) cx 6 rfl rfl (vp_in_nI (by omega) (by omega)) (by rw [nI_clamp (by omega)]; rfl) dX5_command_186 ?_
          refine g_aload_n cx dX5_command_187 rfl ?_
          refine g_get (C := RX5) (T := TX5) (N := 14) (ci := 5) cx hiX5 0 9 (by decide) rfl (by decide +kernel) rfl rfl dX5_command_188 ?_
          refine g_iconst cx dX5_command_191 kc_i3 ?_
          refine g_aload_n cx dX5_command_192 rfl ?_
          refine g_get (C := RX5) (T := TX5) (N := 14) (ci := 5) cx hiX5 0 10 (by decide) rfl (by decide +kernel) rfl rfl dX5_command_193 ?_
          refine g_imul cx dX5_command_196 ?_
          refine g_top (pk_mul 3 tlN) ?_
          refine g_iconst cx dX5_command_197 kc_i2 ?_
          refine g_iadd cx dX5_command_198 ?_
          refine g_top (nI_add (3 * tlN) 2) ?_
          refine g_iload cx dX5_command_199 rfl ?_
          refine g_iast (ws' := [(h, .inr (5, [.ref an, .ref ap_, .ref asl, .ref ah, .int (nI hN), .ref ax, .int (nI tyN), .int th, .int (nI ((nm1 T tyN 999 (((nm1 T tyN 999 (at_ + 1)).2) + 1)).2)), .ref atd, .int (nI tlN), .ref av, .ref ae, .int go])), (an, .inl (E.2.1 0, 67, .inl nw)), (ap_, .inl (E.2.1 0, 402, .inl ps)), (asl, .inl (E.2.1 0, 134, .inl sl)), (ah, .inl (E.2.1 0, 2, .inl hsl)), (ax, .inl (E.2.1 0, 80, .inl (fun j => nI (T j)))), (atd, .inl (E.2.1 0, 123, .inl (upd (upd (upd td (3 * tlN) (nI 103)) ((3 * tlN) + 1) (nI ((nm1 T tyN 999 (at_ + 1)).1))) ((3 * tlN) + 2) (nI ((nm1 T tyN 999 (((nm1 T tyN 999 (at_ + 1)).2) + 1)).1))))), (av, .inl (E.2.1 0, 64, .inl va)), (ae, .inl (E.2.1 0, 64, .inl er))]) cx 6 rfl rfl (vp_in_nI (by omega) (by omega)) (by rw [nI_clamp (by omega)]; rfl) dX5_command_201 ?_
          refine g_aload_n cx dX5_command_202 rfl ?_
          refine g_dup cx dX5_command_203 rfl ?_
          refine g_get (C := RX5) (T := TX5) (N := 14) (ci := 5) cx hiX5 0 10 (by decide) rfl (by decide +kernel) rfl rfl dX5_command_204 ?_
          refine g_iconst cx dX5_command_207 kc_i1 ?_
          refine g_iadd cx dX5_command_208 ?_
          refine g_top (nI_add tlN 1) ?_
          refine g_put (ws' := [(h, .inr (5, [.ref an, .ref ap_, .ref asl, .ref ah, .int (nI hN), .ref ax, .int (nI tyN), .int th, .int (nI ((nm1 T tyN 999 (((nm1 T tyN 999 (at_ + 1)).2) + 1)).2)), .ref atd, .int (nI (tlN + 1)), .ref av, .ref ae, .int go])), (an, .inl (E.2.1 0, 67, .inl nw)), (ap_, .inl (E.2.1 0, 402, .inl ps)), (asl, .inl (E.2.1 0, 134, .inl sl)), (ah, .inl (E.2.1 0, 2, .inl hsl)), (ax, .inl (E.2.1 0, 80, .inl (fun j => nI (T j)))), (atd, .inl (E.2.1 0, 123, .inl (upd (upd (upd td (3 * tlN) (nI 103)) ((3 * tlN) + 1) (nI ((nm1 T tyN 999 (at_ + 1)).1))) ((3 * tlN) + 2) (nI ((nm1 T tyN 999 (((nm1 T tyN 999 (at_ + 1)).2) + 1)).1))))), (av, .inl (E.2.1 0, 64, .inl va)), (ae, .inl (E.2.1 0, 64, .inl er))]) (C := RX5) (T := TX5) (N := 14) (ci := 5) cx hiX5 tyX5 tyX5_ok nmX5 0 10 (by decide) rfl (by decide +kernel) rfl rfl rfl rfl rfl (Nat.le_of_ble_eq_true rfl) rfl dX5_command_209 ?_
          refine g_iload_n cx dX5_command_212 rfl ?_
          refine g_if_lt (tgt := 225) cx dX5_command_213 (by decide) (fun z10 => absurd z10 (nI_pos (by omega))) (fun z10 => ?_)
          have z10 := gn_nlt (a := (nm1 T tyN 999 (at_ + 1)).1) (b := 0) (by omega) (by omega) z10
          refine g_iload cx dX5_command_216 rfl ?_
          refine g_if_lt (tgt := 225) cx dX5_command_218 (by decide) (fun z11 => absurd z11 (nI_pos (by omega))) (fun z11 => ?_)
          have z11 := gn_nlt (a := (nm1 T tyN 999 (((nm1 T tyN 999 (at_ + 1)).2) + 1)).1) (b := 0) (by omega) (by omega) z11
          refine g_iconst cx dX5_command_221 kc_i1 ?_
          refine g_goto (tgt := 226) cx dX5_command_222 (by decide) ?_
          exact g_zretE cx (by decide +kernel) dX5_command_226 (by rw [hq] <;> rfl) (by rw [hq]; first | exact gB_t | exact gB_f)
        ·
          have hq : cmd T tyN at_ = (false, (nm1 T tyN 999 (at_ + 1)).2 + 1, 103, nI (nm1 T tyN 999 (at_ + 1)).1, -1) := by unfold cmd; rw [if_pos h103, if_pos hd1, if_pos he1, if_neg hd2]
          refine g_aload_n cx dX5_command_0 rfl ?_
          refine g_bipush cx dX5_command_1 kc_b103 ?_
          refine g_callV (ws' := [(h, .inr (5, [.ref an, .ref ap_, .ref asl, .ref ah, .int (nI hN), .ref ax, .int (nI tyN), .int th, .int (nI (at_ + 1)), .ref atd, .int (nI tlN), .ref av, .ref ae, .int go])), (an, .inl (E.2.1 0, 67, .inl nw)), (ap_, .inl (E.2.1 0, 402, .inl ps)), (asl, .inl (E.2.1 0, 134, .inl sl)), (ah, .inl (E.2.1 0, 2, .inl hsl)), (ax, .inl (E.2.1 0, 80, .inl (fun j => nI (T j)))), (atd, .inl (E.2.1 0, 123, .inl td)), (av, .inl (E.2.1 0, 64, .inl va)), (ae, .inl (E.2.1 0, 64, .inl er))]) (As := [.int (nI 103)]) (rest := []) (n := 1) (T := TX5) (N := 14) (ci := 5) cx (c_X5_sees_t l E h an ap_ asl ah ax atd av ae nw ps sl hsl td va er T hN tyN at_ tlN th go 103 h103.1 h103.2 (by omega) hT) gX5_command_X5_sees rfl (by decide +kernel) rfl rfl ⟨Nat.le_of_ble_eq_true rfl, Nat.le_of_ble_eq_true rfl⟩ ⟨Nat.zero_le _, Nat.zero_le _⟩ [0, 1, 2, 3, 4, 5, 6, 7, 8] 0 rfl rfl (by decide) rfl rfl rfl rfl (Nat.le_of_ble_eq_true rfl) dX5_command_3 ?_
          refine g_if_eq (tgt := 14) cx dX5_command_6 (by decide) (fun z12 => absurd ((rfl : true = true).symm.trans (gB_eq0 z12)) (by decide)) (fun z12 => ?_)
          have z12 := gB_ne0 z12
          refine g_bipush cx dX5_command_9 kc_b103 ?_
          refine g_goto (tgt := 71) cx dX5_command_11 (by decide) ?_
          refine g_istore_n (lv' := [(1, .int (nI 103)), (0, .ref h)]) cx dX5_command_71 rfl (by decide) rfl ?_
          refine g_iload_n cx dX5_command_72 rfl ?_
          refine g_bipush cx dX5_command_73 kc_b105 ?_
          refine g_icmp_eq (tgt := 84) cx dX5_command_75 (by decide) (fun z13 => absurd z13 (by decide +kernel)) (fun z13 => ?_)
          have z13 := gn_ne (a := 103) (b := 105) z13
          refine g_iload_n cx dX5_command_78 rfl ?_
          refine g_bipush cx dX5_command_79 kc_b119 ?_
          refine g_icmp_ne (tgt := 88) cx dX5_command_81 (by decide) (fun z14 => ?_) (fun z14 => absurd z14 (by decide +kernel))
          have z14 := gn_ne (a := 103) (b := 119) z14
          refine g_iconst cx dX5_command_88 kc_i0 ?_
          refine g_istore_n (lv' := [(2, .int (nI 0)), (1, .int (nI 103)), (0, .ref h)]) cx dX5_command_89 rfl (by decide) rfl ?_
          refine g_iload_n cx dX5_command_90 rfl ?_
          refine g_if_ne (tgt := 98) cx dX5_command_91 (by decide) (fun z15 => ?_) (fun z15 => absurd z15 (by decide +kernel))
          have z15 := gn_ne0 z15
          refine g_iload_n cx dX5_command_98 rfl ?_
          refine g_if_eq (tgt := 106) cx dX5_command_99 (by decide) (fun z16 => ?_) (fun z16 => absurd z16 (by decide +kernel))
          have z16 := gn_eq0 (by omega) z16
          refine g_aload_n cx dX5_command_106 rfl ?_
          refine g_iload_n cx dX5_command_107 rfl ?_
          refine g_bipush cx dX5_command_108 kc_b114 ?_
          refine g_icmp_ne (tgt := 118) cx dX5_command_110 (by decide) (fun z17 => ?_) (fun z17 => absurd z17 (by decide +kernel))
          have z17 := gn_ne (a := 103) (b := 114) z17
          refine g_sipush cx dX5_command_118 kc_s999 ?_
          refine g_callV (ws' := [(h, .inr (5, [.ref an, .ref ap_, .ref asl, .ref ah, .int (nI hN), .ref ax, .int (nI tyN), .int th, .int (nI ((nm1 T tyN 999 (at_ + 1)).2)), .ref atd, .int (nI tlN), .ref av, .ref ae, .int go])), (an, .inl (E.2.1 0, 67, .inl nw)), (ap_, .inl (E.2.1 0, 402, .inl ps)), (asl, .inl (E.2.1 0, 134, .inl sl)), (ah, .inl (E.2.1 0, 2, .inl hsl)), (ax, .inl (E.2.1 0, 80, .inl (fun j => nI (T j)))), (atd, .inl (E.2.1 0, 123, .inl td)), (av, .inl (E.2.1 0, 64, .inl va)), (ae, .inl (E.2.1 0, 64, .inl er))]) (As := [.int (nI 999)]) (rest := []) (n := 1) (T := TX5) (N := 14) (ci := 5) cx (c_X5_number_y l E h an ap_ asl ah ax atd av ae nw ps sl hsl td va er T hN tyN (at_ + 1) tlN th go 999 hd1.1 hd1.2 (by omega) (by omega) (by omega) hT) gX5_command_X5_number rfl (by decide +kernel) rfl rfl ⟨Nat.le_of_ble_eq_true rfl, Nat.le_of_ble_eq_true rfl⟩ ⟨Nat.zero_le _, Nat.zero_le _⟩ [0, 1, 2, 3, 4, 5, 6, 7, 8] 0 rfl rfl (by decide) rfl rfl rfl rfl (Nat.le_of_ble_eq_true rfl) dX5_command_121 ?_
          refine g_istore_n (lv' := [(3, .int (nI ((nm1 T tyN 999 (at_ + 1)).1))), (2, .int (nI 0)), (1, .int (nI 103)), (0, .ref h)]) cx dX5_command_124 rfl (by decide) rfl ?_
          refine g_iload_n cx dX5_command_125 rfl ?_
          refine g_bipush cx dX5_command_126 kc_b103 ?_
          refine g_icmp_eq (tgt := 135) cx dX5_command_128 (by decide) (fun z18 => ?_) (fun z18 => absurd z18 (by decide +kernel))
          have z18 := gn_eq (a := 103) (b := 103) (by omega) (by omega) z18
          refine g_iload_n cx dX5_command_135 rfl ?_
          refine g_if_lt (tgt := 158) cx dX5_command_136 (by decide) (fun z19 => absurd z19 (nI_pos (by omega))) (fun z19 => ?_)
          have z19 := gn_nlt (a := (nm1 T tyN 999 (at_ + 1)).1) (b := 0) (by omega) (by omega) z19
          refine g_aload_n cx dX5_command_139 rfl ?_
          refine g_bipush cx dX5_command_140 kc_b61 ?_
          refine g_callV (ws' := [(h, .inr (5, [.ref an, .ref ap_, .ref asl, .ref ah, .int (nI hN), .ref ax, .int (nI tyN), .int th, .int (nI (((nm1 T tyN 999 (at_ + 1)).2) + 1)), .ref atd, .int (nI tlN), .ref av, .ref ae, .int go])), (an, .inl (E.2.1 0, 67, .inl nw)), (ap_, .inl (E.2.1 0, 402, .inl ps)), (asl, .inl (E.2.1 0, 134, .inl sl)), (ah, .inl (E.2.1 0, 2, .inl hsl)), (ax, .inl (E.2.1 0, 80, .inl (fun j => nI (T j)))), (atd, .inl (E.2.1 0, 123, .inl td)), (av, .inl (E.2.1 0, 64, .inl va)), (ae, .inl (E.2.1 0, 64, .inl er))]) (As := [.int (nI 61)]) (rest := []) (n := 1) (T := TX5) (N := 14) (ci := 5) cx (c_X5_sees_t l E h an ap_ asl ah ax atd av ae nw ps sl hsl td va er T hN tyN ((nm1 T tyN 999 (at_ + 1)).2) tlN th go 61 he1.1 he1.2 (by omega) hT) gX5_command_X5_sees rfl (by decide +kernel) rfl rfl ⟨Nat.le_of_ble_eq_true rfl, Nat.le_of_ble_eq_true rfl⟩ ⟨Nat.zero_le _, Nat.zero_le _⟩ [0, 1, 2, 3, 4, 5, 6, 7, 8] 0 rfl rfl (by decide) rfl rfl rfl rfl (Nat.le_of_ble_eq_true rfl) dX5_command_142 ?_
          refine g_if_eq (tgt := 158) cx dX5_command_145 (by decide) (fun z20 => absurd ((rfl : true = true).symm.trans (gB_eq0 z20)) (by decide)) (fun z20 => ?_)
          have z20 := gB_ne0 z20
          refine g_aload_n cx dX5_command_148 rfl ?_
          refine g_sipush cx dX5_command_149 kc_s999 ?_
          refine g_callV (ws' := [(h, .inr (5, [.ref an, .ref ap_, .ref asl, .ref ah, .int (nI hN), .ref ax, .int (nI tyN), .int th, .int (nI (((nm1 T tyN 999 (at_ + 1)).2) + 1)), .ref atd, .int (nI tlN), .ref av, .ref ae, .int go])), (an, .inl (E.2.1 0, 67, .inl nw)), (ap_, .inl (E.2.1 0, 402, .inl ps)), (asl, .inl (E.2.1 0, 134, .inl sl)), (ah, .inl (E.2.1 0, 2, .inl hsl)), (ax, .inl (E.2.1 0, 80, .inl (fun j => nI (T j)))), (atd, .inl (E.2.1 0, 123, .inl td)), (av, .inl (E.2.1 0, 64, .inl va)), (ae, .inl (E.2.1 0, 64, .inl er))]) (As := [.int (nI 999)]) (rest := []) (n := 1) (T := TX5) (N := 14) (ci := 5) cx (c_X5_number_n l E h an ap_ asl ah ax atd av ae nw ps sl hsl td va er T hN tyN (((nm1 T tyN 999 (at_ + 1)).2) + 1) tlN th go 999 hd2 (by omega) (by omega) hT) gX5_command_X5_number rfl (by decide +kernel) rfl rfl ⟨Nat.le_of_ble_eq_true rfl, Nat.le_of_ble_eq_true rfl⟩ ⟨Nat.zero_le _, Nat.zero_le _⟩ [0, 1, 2, 3, 4, 5, 6, 7, 8] 0 rfl rfl (by decide) rfl rfl rfl rfl (Nat.le_of_ble_eq_true rfl) dX5_command_152 ?_
          refine g_goto (tgt := 159) cx dX5_command_155 (by decide) ?_
          refine g_istore (lv' := [(4, .int (-1)), (3, .int (nI ((nm1 T tyN 999 (at_ + 1)).1))), (2, .int (nI 0)), (1, .int (nI 103)), (0, .ref h)]) cx dX5_command_159 (by decide) rfl ?_
          refine g_aload_n cx dX5_command_161 rfl ?_
          refine g_get (C := RX5) (T := TX5) (N := 14) (ci := 5) cx hiX5 0 9 (by decide) rfl (by decide +kernel) rfl rfl dX5_command_162 ?_
          refine g_iconst cx dX5_command_165 kc_i3 ?_
          refine g_aload_n cx dX5_command_166 rfl ?_
          refine g_get (C := RX5) (T := TX5) (N := 14) (ci := 5) cx hiX5 0 10 (by decide) rfl (by decide +kernel) rfl rfl dX5_command_167 ?_
          refine g_imul cx dX5_command_170 ?_
          refine g_top (pk_mul 3 tlN) ?_
          refine g_iload_n cx dX5_command_171 rfl ?_
          refine g_iast (ws' := [(h, .inr (5, [.ref an, .ref ap_, .ref asl, .ref ah, .int (nI hN), .ref ax, .int (nI tyN), .int th, .int (nI (((nm1 T tyN 999 (at_ + 1)).2) + 1)), .ref atd, .int (nI tlN), .ref av, .ref ae, .int go])), (an, .inl (E.2.1 0, 67, .inl nw)), (ap_, .inl (E.2.1 0, 402, .inl ps)), (asl, .inl (E.2.1 0, 134, .inl sl)), (ah, .inl (E.2.1 0, 2, .inl hsl)), (ax, .inl (E.2.1 0, 80, .inl (fun j => nI (T j)))), (atd, .inl (E.2.1 0, 123, .inl (upd td (3 * tlN) (nI 103)))), (av, .inl (E.2.1 0, 64, .inl va)), (ae, .inl (E.2.1 0, 64, .inl er))]) cx 6 rfl rfl (vp_in_nI (by omega) (by omega)) (by rw [nI_clamp (by omega)]; rfl) dX5_command_172 ?_
          refine g_aload_n cx dX5_command_173 rfl ?_
          refine g_get (C := RX5) (T := TX5) (N := 14) (ci := 5) cx hiX5 0 9 (by decide) rfl (by decide +kernel) rfl rfl dX5_command_174 ?_
          refine g_iconst cx dX5_command_177 kc_i3 ?_
          refine g_aload_n cx dX5_command_178 rfl ?_
          refine g_get (C := RX5) (T := TX5) (N := 14) (ci := 5) cx hiX5 0 10 (by decide) rfl (by decide +kernel) rfl rfl dX5_command_179 ?_
          refine g_imul cx dX5_command_182 ?_
          refine g_top (pk_mul 3 tlN) ?_
          refine g_iconst cx dX5_command_183 kc_i1 ?_
          refine g_iadd cx dX5_command_184 ?_
          refine g_top (nI_add (3 * tlN) 1) ?_
          refine g_iload_n cx dX5_command_185 rfl ?_
          refine g_iast (ws' := [(h, .inr (5, [.ref an, .ref ap_, .ref asl, .ref ah, .int (nI hN), .ref ax, .int (nI tyN), .int th, .int (nI (((nm1 T tyN 999 (at_ + 1)).2) + 1)), .ref atd, .int (nI tlN), .ref av, .ref ae, .int go])), (an, .inl (E.2.1 0, 67, .inl nw)), (ap_, .inl (E.2.1 0, 402, .inl ps)), (asl, .inl (E.2.1 0, 134, .inl sl)), (ah, .inl (E.2.1 0, 2, .inl hsl)), (ax, .inl (E.2.1 0, 80, .inl (fun j => nI (T j)))), (atd, .inl (E.2.1 0, 123, .inl (upd (upd td (3 * tlN) (nI 103)) ((3 * tlN) + 1) (nI ((nm1 T tyN 999 (at_ + 1)).1))))), (av, .inl (E.2.1 0, 64, .inl va)), (ae, .inl (E.2.1 0, 64, .inl er))]) cx 6 rfl rfl (vp_in_nI (by omega) (by omega)) (by rw [nI_clamp (by omega)]; rfl) dX5_command_186 ?_
          refine g_aload_n cx dX5_command_187 rfl ?_
          refine g_get (C := RX5) (T := TX5) (N := 14) (ci := 5) cx hiX5 0 9 (by decide) rfl (by decide +kernel) rfl rfl dX5_command_188 ?_
          refine g_iconst cx dX5_command_191 kc_i3 ?_
          refine g_aload_n cx dX5_command_192 rfl ?_
          refine g_get (C := RX5) (T := TX5) (N := 14) (ci := 5) cx hiX5 0 10 (by decide) rfl (by decide +kernel) rfl rfl dX5_command_193 ?_
          refine g_imul cx dX5_command_196 ?_
          refine g_top (pk_mul 3 tlN) ?_
          refine g_iconst cx dX5_command_197 kc_i2 ?_
          refine g_iadd cx dX5_command_198 ?_
          refine g_top (nI_add (3 * tlN) 2) ?_
          refine g_iload cx dX5_command_199 rfl ?_
          refine g_iast (ws' := [(h, .inr (5, [.ref an, .ref ap_, .ref asl, .ref ah, .int (nI hN), .ref ax, .int (nI tyN), .int th, .int (nI (((nm1 T tyN 999 (at_ + 1)).2) + 1)), .ref atd, .int (nI tlN), .ref av, .ref ae, .int go])), (an, .inl (E.2.1 0, 67, .inl nw)), (ap_, .inl (E.2.1 0, 402, .inl ps)), (asl, .inl (E.2.1 0, 134, .inl sl)), (ah, .inl (E.2.1 0, 2, .inl hsl)), (ax, .inl (E.2.1 0, 80, .inl (fun j => nI (T j)))), (atd, .inl (E.2.1 0, 123, .inl (upd (upd (upd td (3 * tlN) (nI 103)) ((3 * tlN) + 1) (nI ((nm1 T tyN 999 (at_ + 1)).1))) ((3 * tlN) + 2) (-1)))), (av, .inl (E.2.1 0, 64, .inl va)), (ae, .inl (E.2.1 0, 64, .inl er))]) cx 6 rfl rfl (vp_in_nI (by omega) (by omega)) (by rw [nI_clamp (by omega)]; rfl) dX5_command_201 ?_
          refine g_aload_n cx dX5_command_202 rfl ?_
          refine g_dup cx dX5_command_203 rfl ?_
          refine g_get (C := RX5) (T := TX5) (N := 14) (ci := 5) cx hiX5 0 10 (by decide) rfl (by decide +kernel) rfl rfl dX5_command_204 ?_
          refine g_iconst cx dX5_command_207 kc_i1 ?_
          refine g_iadd cx dX5_command_208 ?_
          refine g_top (nI_add tlN 1) ?_
          refine g_put (ws' := [(h, .inr (5, [.ref an, .ref ap_, .ref asl, .ref ah, .int (nI hN), .ref ax, .int (nI tyN), .int th, .int (nI (((nm1 T tyN 999 (at_ + 1)).2) + 1)), .ref atd, .int (nI (tlN + 1)), .ref av, .ref ae, .int go])), (an, .inl (E.2.1 0, 67, .inl nw)), (ap_, .inl (E.2.1 0, 402, .inl ps)), (asl, .inl (E.2.1 0, 134, .inl sl)), (ah, .inl (E.2.1 0, 2, .inl hsl)), (ax, .inl (E.2.1 0, 80, .inl (fun j => nI (T j)))), (atd, .inl (E.2.1 0, 123, .inl (upd (upd (upd td (3 * tlN) (nI 103)) ((3 * tlN) + 1) (nI ((nm1 T tyN 999 (at_ + 1)).1))) ((3 * tlN) + 2) (-1)))), (av, .inl (E.2.1 0, 64, .inl va)), (ae, .inl (E.2.1 0, 64, .inl er))]) (C := RX5) (T := TX5) (N := 14) (ci := 5) cx hiX5 tyX5 tyX5_ok nmX5 0 10 (by decide) rfl (by decide +kernel) rfl rfl rfl rfl rfl (Nat.le_of_ble_eq_true rfl) rfl dX5_command_209 ?_
          refine g_iload_n cx dX5_command_212 rfl ?_
          refine g_if_lt (tgt := 225) cx dX5_command_213 (by decide) (fun z21 => absurd z21 (nI_pos (by omega))) (fun z21 => ?_)
          have z21 := gn_nlt (a := (nm1 T tyN 999 (at_ + 1)).1) (b := 0) (by omega) (by omega) z21
          refine g_iload cx dX5_command_216 rfl ?_
          refine g_if_lt (tgt := 225) cx dX5_command_218 (by decide) (fun z22 => ?_) (fun z22 => absurd z22 (by decide +kernel))
          have z22 := gi0_lt z22
          refine g_iconst cx dX5_command_225 kc_i0 ?_
          exact g_zretE cx (by decide +kernel) dX5_command_226 (by rw [hq] <;> rfl) (by rw [hq]; first | exact gB_t | exact gB_f)
      ·
        have hq : cmd T tyN at_ = (false, (nm1 T tyN 999 (at_ + 1)).2, 103, nI (nm1 T tyN 999 (at_ + 1)).1, -1) := by unfold cmd; rw [if_pos h103, if_pos hd1, if_neg he1]
        refine g_aload_n cx dX5_command_0 rfl ?_
        refine g_bipush cx dX5_command_1 kc_b103 ?_
        refine g_callV (ws' := [(h, .inr (5, [.ref an, .ref ap_, .ref asl, .ref ah, .int (nI hN), .ref ax, .int (nI tyN), .int th, .int (nI (at_ + 1)), .ref atd, .int (nI tlN), .ref av, .ref ae, .int go])), (an, .inl (E.2.1 0, 67, .inl nw)), (ap_, .inl (E.2.1 0, 402, .inl ps)), (asl, .inl (E.2.1 0, 134, .inl sl)), (ah, .inl (E.2.1 0, 2, .inl hsl)), (ax, .inl (E.2.1 0, 80, .inl (fun j => nI (T j)))), (atd, .inl (E.2.1 0, 123, .inl td)), (av, .inl (E.2.1 0, 64, .inl va)), (ae, .inl (E.2.1 0, 64, .inl er))]) (As := [.int (nI 103)]) (rest := []) (n := 1) (T := TX5) (N := 14) (ci := 5) cx (c_X5_sees_t l E h an ap_ asl ah ax atd av ae nw ps sl hsl td va er T hN tyN at_ tlN th go 103 h103.1 h103.2 (by omega) hT) gX5_command_X5_sees rfl (by decide +kernel) rfl rfl ⟨Nat.le_of_ble_eq_true rfl, Nat.le_of_ble_eq_true rfl⟩ ⟨Nat.zero_le _, Nat.zero_le _⟩ [0, 1, 2, 3, 4, 5, 6, 7, 8] 0 rfl rfl (by decide) rfl rfl rfl rfl (Nat.le_of_ble_eq_true rfl) dX5_command_3 ?_
        refine g_if_eq (tgt := 14) cx dX5_command_6 (by decide) (fun z23 => absurd ((rfl : true = true).symm.trans (gB_eq0 z23)) (by decide)) (fun z23 => ?_)
        have z23 := gB_ne0 z23
        refine g_bipush cx dX5_command_9 kc_b103 ?_
        refine g_goto (tgt := 71) cx dX5_command_11 (by decide) ?_
        refine g_istore_n (lv' := [(1, .int (nI 103)), (0, .ref h)]) cx dX5_command_71 rfl (by decide) rfl ?_
        refine g_iload_n cx dX5_command_72 rfl ?_
        refine g_bipush cx dX5_command_73 kc_b105 ?_
        refine g_icmp_eq (tgt := 84) cx dX5_command_75 (by decide) (fun z24 => absurd z24 (by decide +kernel)) (fun z24 => ?_)
        have z24 := gn_ne (a := 103) (b := 105) z24
        refine g_iload_n cx dX5_command_78 rfl ?_
        refine g_bipush cx dX5_command_79 kc_b119 ?_
        refine g_icmp_ne (tgt := 88) cx dX5_command_81 (by decide) (fun z25 => ?_) (fun z25 => absurd z25 (by decide +kernel))
        have z25 := gn_ne (a := 103) (b := 119) z25
        refine g_iconst cx dX5_command_88 kc_i0 ?_
        refine g_istore_n (lv' := [(2, .int (nI 0)), (1, .int (nI 103)), (0, .ref h)]) cx dX5_command_89 rfl (by decide) rfl ?_
        refine g_iload_n cx dX5_command_90 rfl ?_
        refine g_if_ne (tgt := 98) cx dX5_command_91 (by decide) (fun z26 => ?_) (fun z26 => absurd z26 (by decide +kernel))
        have z26 := gn_ne0 z26
        refine g_iload_n cx dX5_command_98 rfl ?_
        refine g_if_eq (tgt := 106) cx dX5_command_99 (by decide) (fun z27 => ?_) (fun z27 => absurd z27 (by decide +kernel))
        have z27 := gn_eq0 (by omega) z27
        refine g_aload_n cx dX5_command_106 rfl ?_
        refine g_iload_n cx dX5_command_107 rfl ?_
        refine g_bipush cx dX5_command_108 kc_b114 ?_
        refine g_icmp_ne (tgt := 118) cx dX5_command_110 (by decide) (fun z28 => ?_) (fun z28 => absurd z28 (by decide +kernel))
        have z28 := gn_ne (a := 103) (b := 114) z28
        refine g_sipush cx dX5_command_118 kc_s999 ?_
        refine g_callV (ws' := [(h, .inr (5, [.ref an, .ref ap_, .ref asl, .ref ah, .int (nI hN), .ref ax, .int (nI tyN), .int th, .int (nI ((nm1 T tyN 999 (at_ + 1)).2)), .ref atd, .int (nI tlN), .ref av, .ref ae, .int go])), (an, .inl (E.2.1 0, 67, .inl nw)), (ap_, .inl (E.2.1 0, 402, .inl ps)), (asl, .inl (E.2.1 0, 134, .inl sl)), (ah, .inl (E.2.1 0, 2, .inl hsl)), (ax, .inl (E.2.1 0, 80, .inl (fun j => nI (T j)))), (atd, .inl (E.2.1 0, 123, .inl td)), (av, .inl (E.2.1 0, 64, .inl va)), (ae, .inl (E.2.1 0, 64, .inl er))]) (As := [.int (nI 999)]) (rest := []) (n := 1) (T := TX5) (N := 14) (ci := 5) cx (c_X5_number_y l E h an ap_ asl ah ax atd av ae nw ps sl hsl td va er T hN tyN (at_ + 1) tlN th go 999 hd1.1 hd1.2 (by omega) (by omega) (by omega) hT) gX5_command_X5_number rfl (by decide +kernel) rfl rfl ⟨Nat.le_of_ble_eq_true rfl, Nat.le_of_ble_eq_true rfl⟩ ⟨Nat.zero_le _, Nat.zero_le _⟩ [0, 1, 2, 3, 4, 5, 6, 7, 8] 0 rfl rfl (by decide) rfl rfl rfl rfl (Nat.le_of_ble_eq_true rfl) dX5_command_121 ?_
        refine g_istore_n (lv' := [(3, .int (nI ((nm1 T tyN 999 (at_ + 1)).1))), (2, .int (nI 0)), (1, .int (nI 103)), (0, .ref h)]) cx dX5_command_124 rfl (by decide) rfl ?_
        refine g_iload_n cx dX5_command_125 rfl ?_
        refine g_bipush cx dX5_command_126 kc_b103 ?_
        refine g_icmp_eq (tgt := 135) cx dX5_command_128 (by decide) (fun z29 => ?_) (fun z29 => absurd z29 (by decide +kernel))
        have z29 := gn_eq (a := 103) (b := 103) (by omega) (by omega) z29
        refine g_iload_n cx dX5_command_135 rfl ?_
        refine g_if_lt (tgt := 158) cx dX5_command_136 (by decide) (fun z30 => absurd z30 (nI_pos (by omega))) (fun z30 => ?_)
        have z30 := gn_nlt (a := (nm1 T tyN 999 (at_ + 1)).1) (b := 0) (by omega) (by omega) z30
        refine g_aload_n cx dX5_command_139 rfl ?_
        refine g_bipush cx dX5_command_140 kc_b61 ?_
        refine g_callV (ws' := [(h, .inr (5, [.ref an, .ref ap_, .ref asl, .ref ah, .int (nI hN), .ref ax, .int (nI tyN), .int th, .int (nI ((nm1 T tyN 999 (at_ + 1)).2)), .ref atd, .int (nI tlN), .ref av, .ref ae, .int go])), (an, .inl (E.2.1 0, 67, .inl nw)), (ap_, .inl (E.2.1 0, 402, .inl ps)), (asl, .inl (E.2.1 0, 134, .inl sl)), (ah, .inl (E.2.1 0, 2, .inl hsl)), (ax, .inl (E.2.1 0, 80, .inl (fun j => nI (T j)))), (atd, .inl (E.2.1 0, 123, .inl td)), (av, .inl (E.2.1 0, 64, .inl va)), (ae, .inl (E.2.1 0, 64, .inl er))]) (As := [.int (nI 61)]) (rest := []) (n := 1) (T := TX5) (N := 14) (ci := 5) cx (c_X5_sees_f l E h an ap_ asl ah ax atd av ae nw ps sl hsl td va er T hN tyN ((nm1 T tyN 999 (at_ + 1)).2) tlN th go 61 he1 (by omega) (by omega) (by omega) hT) gX5_command_X5_sees rfl (by decide +kernel) rfl rfl ⟨Nat.le_of_ble_eq_true rfl, Nat.le_of_ble_eq_true rfl⟩ ⟨Nat.zero_le _, Nat.zero_le _⟩ [0, 1, 2, 3, 4, 5, 6, 7, 8] 0 rfl rfl (by decide) rfl rfl rfl rfl (Nat.le_of_ble_eq_true rfl) dX5_command_142 ?_
        refine g_if_eq (tgt := 158) cx dX5_command_145 (by decide) (fun z31 => ?_) (fun z31 => absurd ((rfl : false = false).symm.trans (gB_ne0 z31)) (by decide))
        have z31 := gB_eq0 z31
        refine g_iconst cx dX5_command_158 kc_im1 ?_
        refine g_istore (lv' := [(4, .int (-1)), (3, .int (nI ((nm1 T tyN 999 (at_ + 1)).1))), (2, .int (nI 0)), (1, .int (nI 103)), (0, .ref h)]) cx dX5_command_159 (by decide) rfl ?_
        refine g_aload_n cx dX5_command_161 rfl ?_
        refine g_get (C := RX5) (T := TX5) (N := 14) (ci := 5) cx hiX5 0 9 (by decide) rfl (by decide +kernel) rfl rfl dX5_command_162 ?_
        refine g_iconst cx dX5_command_165 kc_i3 ?_
        refine g_aload_n cx dX5_command_166 rfl ?_
        refine g_get (C := RX5) (T := TX5) (N := 14) (ci := 5) cx hiX5 0 10 (by decide) rfl (by decide +kernel) rfl rfl dX5_command_167 ?_
        refine g_imul cx dX5_command_170 ?_
        refine g_top (pk_mul 3 tlN) ?_
        refine g_iload_n cx dX5_command_171 rfl ?_
        refine g_iast (ws' := [(h, .inr (5, [.ref an, .ref ap_, .ref asl, .ref ah, .int (nI hN), .ref ax, .int (nI tyN), .int th, .int (nI ((nm1 T tyN 999 (at_ + 1)).2)), .ref atd, .int (nI tlN), .ref av, .ref ae, .int go])), (an, .inl (E.2.1 0, 67, .inl nw)), (ap_, .inl (E.2.1 0, 402, .inl ps)), (asl, .inl (E.2.1 0, 134, .inl sl)), (ah, .inl (E.2.1 0, 2, .inl hsl)), (ax, .inl (E.2.1 0, 80, .inl (fun j => nI (T j)))), (atd, .inl (E.2.1 0, 123, .inl (upd td (3 * tlN) (nI 103)))), (av, .inl (E.2.1 0, 64, .inl va)), (ae, .inl (E.2.1 0, 64, .inl er))]) cx 6 rfl rfl (vp_in_nI (by omega) (by omega)) (by rw [nI_clamp (by omega)]; rfl) dX5_command_172 ?_
        refine g_aload_n cx dX5_command_173 rfl ?_
        refine g_get (C := RX5) (T := TX5) (N := 14) (ci := 5) cx hiX5 0 9 (by decide) rfl (by decide +kernel) rfl rfl dX5_command_174 ?_
        refine g_iconst cx dX5_command_177 kc_i3 ?_
        refine g_aload_n cx dX5_command_178 rfl ?_
        refine g_get (C := RX5) (T := TX5) (N := 14) (ci := 5) cx hiX5 0 10 (by decide) rfl (by decide +kernel) rfl rfl dX5_command_179 ?_
        refine g_imul cx dX5_command_182 ?_
        refine g_top (pk_mul 3 tlN) ?_
        refine g_iconst cx dX5_command_183 kc_i1 ?_
        refine g_iadd cx dX5_command_184 ?_
        refine g_top (nI_add (3 * tlN) 1) ?_
        refine g_iload_n cx dX5_command_185 rfl ?_
        refine g_iast (ws' := [(h, .inr (5, [.ref an, .ref ap_, .ref asl, .ref ah, .int (nI hN), .ref ax, .int (nI tyN), .int th, .int (nI ((nm1 T tyN 999 (at_ + 1)).2)), .ref atd, .int (nI tlN), .ref av, .ref ae, .int go])), (an, .inl (E.2.1 0, 67, .inl nw)), (ap_, .inl (E.2.1 0, 402, .inl ps)), (asl, .inl (E.2.1 0, 134, .inl sl)), (ah, .inl (E.2.1 0, 2, .inl hsl)), (ax, .inl (E.2.1 0, 80, .inl (fun j => nI (T j)))), (atd, .inl (E.2.1 0, 123, .inl (upd (upd td (3 * tlN) (nI 103)) ((3 * tlN) + 1) (nI ((nm1 T tyN 999 (at_ + 1)).1))))), (av, .inl (E.2.1 0, 64, .inl va)), (ae, .inl (E.2.1 0, 64, .inl er))]) cx 6 rfl rfl (vp_in_nI (by omega) (by omega)) (by rw [nI_clamp (by omega)]; rfl) dX5_command_186 ?_
        refine g_aload_n cx dX5_command_187 rfl ?_
        refine g_get (C := RX5) (T := TX5) (N := 14) (ci := 5) cx hiX5 0 9 (by decide) rfl (by decide +kernel) rfl rfl dX5_command_188 ?_
        refine g_iconst cx dX5_command_191 kc_i3 ?_
        refine g_aload_n cx dX5_command_192 rfl ?_
        refine g_get (C := RX5) (T := TX5) (N := 14) (ci := 5) cx hiX5 0 10 (by decide) rfl (by decide +kernel) rfl rfl dX5_command_193 ?_
        refine g_imul cx dX5_command_196 ?_
        refine g_top (pk_mul 3 tlN) ?_
        refine g_iconst cx dX5_command_197 kc_i2 ?_
        refine g_iadd cx dX5_command_198 ?_
        refine g_top (nI_add (3 * tlN) 2) ?_
        refine g_iload cx dX5_command_199 rfl ?_
        refine g_iast (ws' := [(h, .inr (5, [.ref an, .ref ap_, .ref asl, .ref ah, .int (nI hN), .ref ax, .int (nI tyN), .int th, .int (nI ((nm1 T tyN 999 (at_ + 1)).2)), .ref atd, .int (nI tlN), .ref av, .ref ae, .int go])), (an, .inl (E.2.1 0, 67, .inl nw)), (ap_, .inl (E.2.1 0, 402, .inl ps)), (asl, .inl (E.2.1 0, 134, .inl sl)), (ah, .inl (E.2.1 0, 2, .inl hsl)), (ax, .inl (E.2.1 0, 80, .inl (fun j => nI (T j)))), (atd, .inl (E.2.1 0, 123, .inl (upd (upd (upd td (3 * tlN) (nI 103)) ((3 * tlN) + 1) (nI ((nm1 T tyN 999 (at_ + 1)).1))) ((3 * tlN) + 2) (-1)))), (av, .inl (E.2.1 0, 64, .inl va)), (ae, .inl (E.2.1 0, 64, .inl er))]) cx 6 rfl rfl (vp_in_nI (by omega) (by omega)) (by rw [nI_clamp (by omega)]; rfl) dX5_command_201 ?_
        refine g_aload_n cx dX5_command_202 rfl ?_
        refine g_dup cx dX5_command_203 rfl ?_
        refine g_get (C := RX5) (T := TX5) (N := 14) (ci := 5) cx hiX5 0 10 (by decide) rfl (by decide +kernel) rfl rfl dX5_command_204 ?_
        refine g_iconst cx dX5_command_207 kc_i1 ?_
        refine g_iadd cx dX5_command_208 ?_
        refine g_top (nI_add tlN 1) ?_
        refine g_put (ws' := [(h, .inr (5, [.ref an, .ref ap_, .ref asl, .ref ah, .int (nI hN), .ref ax, .int (nI tyN), .int th, .int (nI ((nm1 T tyN 999 (at_ + 1)).2)), .ref atd, .int (nI (tlN + 1)), .ref av, .ref ae, .int go])), (an, .inl (E.2.1 0, 67, .inl nw)), (ap_, .inl (E.2.1 0, 402, .inl ps)), (asl, .inl (E.2.1 0, 134, .inl sl)), (ah, .inl (E.2.1 0, 2, .inl hsl)), (ax, .inl (E.2.1 0, 80, .inl (fun j => nI (T j)))), (atd, .inl (E.2.1 0, 123, .inl (upd (upd (upd td (3 * tlN) (nI 103)) ((3 * tlN) + 1) (nI ((nm1 T tyN 999 (at_ + 1)).1))) ((3 * tlN) + 2) (-1)))), (av, .inl (E.2.1 0, 64, .inl va)), (ae, .inl (E.2.1 0, 64, .inl er))]) (C := RX5) (T := TX5) (N := 14) (ci := 5) cx hiX5 tyX5 tyX5_ok nmX5 0 10 (by decide) rfl (by decide +kernel) rfl rfl rfl rfl rfl (Nat.le_of_ble_eq_true rfl) rfl dX5_command_209 ?_
        refine g_iload_n cx dX5_command_212 rfl ?_
        refine g_if_lt (tgt := 225) cx dX5_command_213 (by decide) (fun z32 => absurd z32 (nI_pos (by omega))) (fun z32 => ?_)
        have z32 := gn_nlt (a := (nm1 T tyN 999 (at_ + 1)).1) (b := 0) (by omega) (by omega) z32
        refine g_iload cx dX5_command_216 rfl ?_
        refine g_if_lt (tgt := 225) cx dX5_command_218 (by decide) (fun z33 => ?_) (fun z33 => absurd z33 (by decide +kernel))
        have z33 := gi0_lt z33
        refine g_iconst cx dX5_command_225 kc_i0 ?_
        exact g_zretE cx (by decide +kernel) dX5_command_226 (by rw [hq] <;> rfl) (by rw [hq]; first | exact gB_t | exact gB_f)
    ·
      have hq : cmd T tyN at_ = (false, at_ + 1, 103, -1, -1) := by unfold cmd; rw [if_pos h103, if_neg hd1]
      refine g_aload_n cx dX5_command_0 rfl ?_
      refine g_bipush cx dX5_command_1 kc_b103 ?_
      refine g_callV (ws' := [(h, .inr (5, [.ref an, .ref ap_, .ref asl, .ref ah, .int (nI hN), .ref ax, .int (nI tyN), .int th, .int (nI (at_ + 1)), .ref atd, .int (nI tlN), .ref av, .ref ae, .int go])), (an, .inl (E.2.1 0, 67, .inl nw)), (ap_, .inl (E.2.1 0, 402, .inl ps)), (asl, .inl (E.2.1 0, 134, .inl sl)), (ah, .inl (E.2.1 0, 2, .inl hsl)), (ax, .inl (E.2.1 0, 80, .inl (fun j => nI (T j)))), (atd, .inl (E.2.1 0, 123, .inl td)), (av, .inl (E.2.1 0, 64, .inl va)), (ae, .inl (E.2.1 0, 64, .inl er))]) (As := [.int (nI 103)]) (rest := []) (n := 1) (T := TX5) (N := 14) (ci := 5) cx (c_X5_sees_t l E h an ap_ asl ah ax atd av ae nw ps sl hsl td va er T hN tyN at_ tlN th go 103 h103.1 h103.2 (by omega) hT) gX5_command_X5_sees rfl (by decide +kernel) rfl rfl ⟨Nat.le_of_ble_eq_true rfl, Nat.le_of_ble_eq_true rfl⟩ ⟨Nat.zero_le _, Nat.zero_le _⟩ [0, 1, 2, 3, 4, 5, 6, 7, 8] 0 rfl rfl (by decide) rfl rfl rfl rfl (Nat.le_of_ble_eq_true rfl) dX5_command_3 ?_
      refine g_if_eq (tgt := 14) cx dX5_command_6 (by decide) (fun z34 => absurd ((rfl : true = true).symm.trans (gB_eq0 z34)) (by decide)) (fun z34 => ?_)
      have z34 := gB_ne0 z34
      refine g_bipush cx dX5_command_9 kc_b103 ?_
      refine g_goto (tgt := 71) cx dX5_command_11 (by decide) ?_
      refine g_istore_n (lv' := [(1, .int (nI 103)), (0, .ref h)]) cx dX5_command_71 rfl (by decide) rfl ?_
      refine g_iload_n cx dX5_command_72 rfl ?_
      refine g_bipush cx dX5_command_73 kc_b105 ?_
      refine g_icmp_eq (tgt := 84) cx dX5_command_75 (by decide) (fun z35 => absurd z35 (by decide +kernel)) (fun z35 => ?_)
      have z35 := gn_ne (a := 103) (b := 105) z35
      refine g_iload_n cx dX5_command_78 rfl ?_
      refine g_bipush cx dX5_command_79 kc_b119 ?_
      refine g_icmp_ne (tgt := 88) cx dX5_command_81 (by decide) (fun z36 => ?_) (fun z36 => absurd z36 (by decide +kernel))
      have z36 := gn_ne (a := 103) (b := 119) z36
      refine g_iconst cx dX5_command_88 kc_i0 ?_
      refine g_istore_n (lv' := [(2, .int (nI 0)), (1, .int (nI 103)), (0, .ref h)]) cx dX5_command_89 rfl (by decide) rfl ?_
      refine g_iload_n cx dX5_command_90 rfl ?_
      refine g_if_ne (tgt := 98) cx dX5_command_91 (by decide) (fun z37 => ?_) (fun z37 => absurd z37 (by decide +kernel))
      have z37 := gn_ne0 z37
      refine g_iload_n cx dX5_command_98 rfl ?_
      refine g_if_eq (tgt := 106) cx dX5_command_99 (by decide) (fun z38 => ?_) (fun z38 => absurd z38 (by decide +kernel))
      have z38 := gn_eq0 (by omega) z38
      refine g_aload_n cx dX5_command_106 rfl ?_
      refine g_iload_n cx dX5_command_107 rfl ?_
      refine g_bipush cx dX5_command_108 kc_b114 ?_
      refine g_icmp_ne (tgt := 118) cx dX5_command_110 (by decide) (fun z39 => ?_) (fun z39 => absurd z39 (by decide +kernel))
      have z39 := gn_ne (a := 103) (b := 114) z39
      refine g_sipush cx dX5_command_118 kc_s999 ?_
      refine g_callV (ws' := [(h, .inr (5, [.ref an, .ref ap_, .ref asl, .ref ah, .int (nI hN), .ref ax, .int (nI tyN), .int th, .int (nI (at_ + 1)), .ref atd, .int (nI tlN), .ref av, .ref ae, .int go])), (an, .inl (E.2.1 0, 67, .inl nw)), (ap_, .inl (E.2.1 0, 402, .inl ps)), (asl, .inl (E.2.1 0, 134, .inl sl)), (ah, .inl (E.2.1 0, 2, .inl hsl)), (ax, .inl (E.2.1 0, 80, .inl (fun j => nI (T j)))), (atd, .inl (E.2.1 0, 123, .inl td)), (av, .inl (E.2.1 0, 64, .inl va)), (ae, .inl (E.2.1 0, 64, .inl er))]) (As := [.int (nI 999)]) (rest := []) (n := 1) (T := TX5) (N := 14) (ci := 5) cx (c_X5_number_n l E h an ap_ asl ah ax atd av ae nw ps sl hsl td va er T hN tyN (at_ + 1) tlN th go 999 hd1 (by omega) (by omega) hT) gX5_command_X5_number rfl (by decide +kernel) rfl rfl ⟨Nat.le_of_ble_eq_true rfl, Nat.le_of_ble_eq_true rfl⟩ ⟨Nat.zero_le _, Nat.zero_le _⟩ [0, 1, 2, 3, 4, 5, 6, 7, 8] 0 rfl rfl (by decide) rfl rfl rfl rfl (Nat.le_of_ble_eq_true rfl) dX5_command_121 ?_
      refine g_istore_n (lv' := [(3, .int (-1)), (2, .int (nI 0)), (1, .int (nI 103)), (0, .ref h)]) cx dX5_command_124 rfl (by decide) rfl ?_
      refine g_iload_n cx dX5_command_125 rfl ?_
      refine g_bipush cx dX5_command_126 kc_b103 ?_
      refine g_icmp_eq (tgt := 135) cx dX5_command_128 (by decide) (fun z40 => ?_) (fun z40 => absurd z40 (by decide +kernel))
      have z40 := gn_eq (a := 103) (b := 103) (by omega) (by omega) z40
      refine g_iload_n cx dX5_command_135 rfl ?_
      refine g_if_lt (tgt := 158) cx dX5_command_136 (by decide) (fun z41 => ?_) (fun z41 => absurd z41 (by decide +kernel))
      have z41 := gi0_lt z41
      refine g_iconst cx dX5_command_158 kc_im1 ?_
      refine g_istore (lv' := [(4, .int (-1)), (3, .int (-1)), (2, .int (nI 0)), (1, .int (nI 103)), (0, .ref h)]) cx dX5_command_159 (by decide) rfl ?_
      refine g_aload_n cx dX5_command_161 rfl ?_
      refine g_get (C := RX5) (T := TX5) (N := 14) (ci := 5) cx hiX5 0 9 (by decide) rfl (by decide +kernel) rfl rfl dX5_command_162 ?_
      refine g_iconst cx dX5_command_165 kc_i3 ?_
      refine g_aload_n cx dX5_command_166 rfl ?_
      refine g_get (C := RX5) (T := TX5) (N := 14) (ci := 5) cx hiX5 0 10 (by decide) rfl (by decide +kernel) rfl rfl dX5_command_167 ?_
      refine g_imul cx dX5_command_170 ?_
      refine g_top (pk_mul 3 tlN) ?_
      refine g_iload_n cx dX5_command_171 rfl ?_
      refine g_iast (ws' := [(h, .inr (5, [.ref an, .ref ap_, .ref asl, .ref ah, .int (nI hN), .ref ax, .int (nI tyN), .int th, .int (nI (at_ + 1)), .ref atd, .int (nI tlN), .ref av, .ref ae, .int go])), (an, .inl (E.2.1 0, 67, .inl nw)), (ap_, .inl (E.2.1 0, 402, .inl ps)), (asl, .inl (E.2.1 0, 134, .inl sl)), (ah, .inl (E.2.1 0, 2, .inl hsl)), (ax, .inl (E.2.1 0, 80, .inl (fun j => nI (T j)))), (atd, .inl (E.2.1 0, 123, .inl (upd td (3 * tlN) (nI 103)))), (av, .inl (E.2.1 0, 64, .inl va)), (ae, .inl (E.2.1 0, 64, .inl er))]) cx 6 rfl rfl (vp_in_nI (by omega) (by omega)) (by rw [nI_clamp (by omega)]; rfl) dX5_command_172 ?_
      refine g_aload_n cx dX5_command_173 rfl ?_
      refine g_get (C := RX5) (T := TX5) (N := 14) (ci := 5) cx hiX5 0 9 (by decide) rfl (by decide +kernel) rfl rfl dX5_command_174 ?_
      refine g_iconst cx dX5_command_177 kc_i3 ?_
      refine g_aload_n cx dX5_command_178 rfl ?_
      refine g_get (C := RX5) (T := TX5) (N := 14) (ci := 5) cx hiX5 0 10 (by decide) rfl (by decide +kernel) rfl rfl dX5_command_179 ?_
      refine g_imul cx dX5_command_182 ?_
      refine g_top (pk_mul 3 tlN) ?_
      refine g_iconst cx dX5_command_183 kc_i1 ?_
      refine g_iadd cx dX5_command_184 ?_
      refine g_top (nI_add (3 * tlN) 1) ?_
      refine g_iload_n cx dX5_command_185 rfl ?_
      refine g_iast (ws' := [(h, .inr (5, [.ref an, .ref ap_, .ref asl, .ref ah, .int (nI hN), .ref ax, .int (nI tyN), .int th, .int (nI (at_ + 1)), .ref atd, .int (nI tlN), .ref av, .ref ae, .int go])), (an, .inl (E.2.1 0, 67, .inl nw)), (ap_, .inl (E.2.1 0, 402, .inl ps)), (asl, .inl (E.2.1 0, 134, .inl sl)), (ah, .inl (E.2.1 0, 2, .inl hsl)), (ax, .inl (E.2.1 0, 80, .inl (fun j => nI (T j)))), (atd, .inl (E.2.1 0, 123, .inl (upd (upd td (3 * tlN) (nI 103)) ((3 * tlN) + 1) (-1)))), (av, .inl (E.2.1 0, 64, .inl va)), (ae, .inl (E.2.1 0, 64, .inl er))]) cx 6 rfl rfl (vp_in_nI (by omega) (by omega)) (by rw [nI_clamp (by omega)]; rfl) dX5_command_186 ?_
      refine g_aload_n cx dX5_command_187 rfl ?_
      refine g_get (C := RX5) (T := TX5) (N := 14) (ci := 5) cx hiX5 0 9 (by decide) rfl (by decide +kernel) rfl rfl dX5_command_188 ?_
      refine g_iconst cx dX5_command_191 kc_i3 ?_
      refine g_aload_n cx dX5_command_192 rfl ?_
      refine g_get (C := RX5) (T := TX5) (N := 14) (ci := 5) cx hiX5 0 10 (by decide) rfl (by decide +kernel) rfl rfl dX5_command_193 ?_
      refine g_imul cx dX5_command_196 ?_
      refine g_top (pk_mul 3 tlN) ?_
      refine g_iconst cx dX5_command_197 kc_i2 ?_
      refine g_iadd cx dX5_command_198 ?_
      refine g_top (nI_add (3 * tlN) 2) ?_
      refine g_iload cx dX5_command_199 rfl ?_
      refine g_iast (ws' := [(h, .inr (5, [.ref an, .ref ap_, .ref asl, .ref ah, .int (nI hN), .ref ax, .int (nI tyN), .int th, .int (nI (at_ + 1)), .ref atd, .int (nI tlN), .ref av, .ref ae, .int go])), (an, .inl (E.2.1 0, 67, .inl nw)), (ap_, .inl (E.2.1 0, 402, .inl ps)), (asl, .inl (E.2.1 0, 134, .inl sl)), (ah, .inl (E.2.1 0, 2, .inl hsl)), (ax, .inl (E.2.1 0, 80, .inl (fun j => nI (T j)))), (atd, .inl (E.2.1 0, 123, .inl (upd (upd (upd td (3 * tlN) (nI 103)) ((3 * tlN) + 1) (-1)) ((3 * tlN) + 2) (-1)))), (av, .inl (E.2.1 0, 64, .inl va)), (ae, .inl (E.2.1 0, 64, .inl er))]) cx 6 rfl rfl (vp_in_nI (by omega) (by omega)) (by rw [nI_clamp (by omega)]; rfl) dX5_command_201 ?_
      refine g_aload_n cx dX5_command_202 rfl ?_
      refine g_dup cx dX5_command_203 rfl ?_
      refine g_get (C := RX5) (T := TX5) (N := 14) (ci := 5) cx hiX5 0 10 (by decide) rfl (by decide +kernel) rfl rfl dX5_command_204 ?_
      refine g_iconst cx dX5_command_207 kc_i1 ?_
      refine g_iadd cx dX5_command_208 ?_
      refine g_top (nI_add tlN 1) ?_
      refine g_put (ws' := [(h, .inr (5, [.ref an, .ref ap_, .ref asl, .ref ah, .int (nI hN), .ref ax, .int (nI tyN), .int th, .int (nI (at_ + 1)), .ref atd, .int (nI (tlN + 1)), .ref av, .ref ae, .int go])), (an, .inl (E.2.1 0, 67, .inl nw)), (ap_, .inl (E.2.1 0, 402, .inl ps)), (asl, .inl (E.2.1 0, 134, .inl sl)), (ah, .inl (E.2.1 0, 2, .inl hsl)), (ax, .inl (E.2.1 0, 80, .inl (fun j => nI (T j)))), (atd, .inl (E.2.1 0, 123, .inl (upd (upd (upd td (3 * tlN) (nI 103)) ((3 * tlN) + 1) (-1)) ((3 * tlN) + 2) (-1)))), (av, .inl (E.2.1 0, 64, .inl va)), (ae, .inl (E.2.1 0, 64, .inl er))]) (C := RX5) (T := TX5) (N := 14) (ci := 5) cx hiX5 tyX5 tyX5_ok nmX5 0 10 (by decide) rfl (by decide +kernel) rfl rfl rfl rfl rfl (Nat.le_of_ble_eq_true rfl) rfl dX5_command_209 ?_
      refine g_iload_n cx dX5_command_212 rfl ?_
      refine g_if_lt (tgt := 225) cx dX5_command_213 (by decide) (fun z42 => ?_) (fun z42 => absurd z42 (by decide +kernel))
      have z42 := gi0_lt z42
      refine g_iconst cx dX5_command_225 kc_i0 ?_
      exact g_zretE cx (by decide +kernel) dX5_command_226 (by rw [hq] <;> rfl) (by rw [hq]; first | exact gB_t | exact gB_f)
  ·
    by_cases h105 : at_ < tyN ∧ T at_ = 105
    ·
      have hq : cmd T tyN at_ = (true, at_ + 1, 105, nI 0, nI 0) := by unfold cmd; rw [if_neg h103, if_pos h105]
      refine g_aload_n cx dX5_command_0 rfl ?_
      refine g_bipush cx dX5_command_1 kc_b103 ?_
      refine g_callV (ws' := [(h, .inr (5, [.ref an, .ref ap_, .ref asl, .ref ah, .int (nI hN), .ref ax, .int (nI tyN), .int th, .int (nI at_), .ref atd, .int (nI tlN), .ref av, .ref ae, .int go])), (an, .inl (E.2.1 0, 67, .inl nw)), (ap_, .inl (E.2.1 0, 402, .inl ps)), (asl, .inl (E.2.1 0, 134, .inl sl)), (ah, .inl (E.2.1 0, 2, .inl hsl)), (ax, .inl (E.2.1 0, 80, .inl (fun j => nI (T j)))), (atd, .inl (E.2.1 0, 123, .inl td)), (av, .inl (E.2.1 0, 64, .inl va)), (ae, .inl (E.2.1 0, 64, .inl er))]) (As := [.int (nI 103)]) (rest := []) (n := 1) (T := TX5) (N := 14) (ci := 5) cx (c_X5_sees_f l E h an ap_ asl ah ax atd av ae nw ps sl hsl td va er T hN tyN at_ tlN th go 103 h103 (by omega) (by omega) (by omega) hT) gX5_command_X5_sees rfl (by decide +kernel) rfl rfl ⟨Nat.le_of_ble_eq_true rfl, Nat.le_of_ble_eq_true rfl⟩ ⟨Nat.zero_le _, Nat.zero_le _⟩ [0, 1, 2, 3, 4, 5, 6, 7, 8] 0 rfl rfl (by decide) rfl rfl rfl rfl (Nat.le_of_ble_eq_true rfl) dX5_command_3 ?_
      refine g_if_eq (tgt := 14) cx dX5_command_6 (by decide) (fun z43 => ?_) (fun z43 => absurd ((rfl : false = false).symm.trans (gB_ne0 z43)) (by decide))
      have z43 := gB_eq0 z43
      refine g_aload_n cx dX5_command_14 rfl ?_
      refine g_bipush cx dX5_command_15 kc_b105 ?_
      refine g_callV (ws' := [(h, .inr (5, [.ref an, .ref ap_, .ref asl, .ref ah, .int (nI hN), .ref ax, .int (nI tyN), .int th, .int (nI (at_ + 1)), .ref atd, .int (nI tlN), .ref av, .ref ae, .int go])), (an, .inl (E.2.1 0, 67, .inl nw)), (ap_, .inl (E.2.1 0, 402, .inl ps)), (asl, .inl (E.2.1 0, 134, .inl sl)), (ah, .inl (E.2.1 0, 2, .inl hsl)), (ax, .inl (E.2.1 0, 80, .inl (fun j => nI (T j)))), (atd, .inl (E.2.1 0, 123, .inl td)), (av, .inl (E.2.1 0, 64, .inl va)), (ae, .inl (E.2.1 0, 64, .inl er))]) (As := [.int (nI 105)]) (rest := []) (n := 1) (T := TX5) (N := 14) (ci := 5) cx (c_X5_sees_t l E h an ap_ asl ah ax atd av ae nw ps sl hsl td va er T hN tyN at_ tlN th go 105 h105.1 h105.2 (by omega) hT) gX5_command_X5_sees rfl (by decide +kernel) rfl rfl ⟨Nat.le_of_ble_eq_true rfl, Nat.le_of_ble_eq_true rfl⟩ ⟨Nat.zero_le _, Nat.zero_le _⟩ [0, 1, 2, 3, 4, 5, 6, 7, 8] 0 rfl rfl (by decide) rfl rfl rfl rfl (Nat.le_of_ble_eq_true rfl) dX5_command_17 ?_
      refine g_if_eq (tgt := 28) cx dX5_command_20 (by decide) (fun z44 => absurd ((rfl : true = true).symm.trans (gB_eq0 z44)) (by decide)) (fun z44 => ?_)
      have z44 := gB_ne0 z44
      refine g_bipush cx dX5_command_23 kc_b105 ?_
      refine g_goto (tgt := 71) cx dX5_command_25 (by decide) ?_
      refine g_istore_n (lv' := [(1, .int (nI 105)), (0, .ref h)]) cx dX5_command_71 rfl (by decide) rfl ?_
      refine g_iload_n cx dX5_command_72 rfl ?_
      refine g_bipush cx dX5_command_73 kc_b105 ?_
      refine g_icmp_eq (tgt := 84) cx dX5_command_75 (by decide) (fun z45 => ?_) (fun z45 => absurd z45 (by decide +kernel))
      have z45 := gn_eq (a := 105) (b := 105) (by omega) (by omega) z45
      refine g_iconst cx dX5_command_84 kc_i1 ?_
      refine g_goto (tgt := 89) cx dX5_command_85 (by decide) ?_
      refine g_istore_n (lv' := [(2, .int (nI 1)), (1, .int (nI 105)), (0, .ref h)]) cx dX5_command_89 rfl (by decide) rfl ?_
      refine g_iload_n cx dX5_command_90 rfl ?_
      refine g_if_ne (tgt := 98) cx dX5_command_91 (by decide) (fun z46 => ?_) (fun z46 => absurd z46 (by decide +kernel))
      have z46 := gn_ne0 z46
      refine g_iload_n cx dX5_command_98 rfl ?_
      refine g_if_eq (tgt := 106) cx dX5_command_99 (by decide) (fun z47 => absurd z47 (by decide +kernel)) (fun z47 => ?_)
      have z47 := gn_ne0 z47
      refine g_iconst cx dX5_command_102 kc_i0 ?_
      refine g_goto (tgt := 124) cx dX5_command_103 (by decide) ?_
      refine g_istore_n (lv' := [(3, .int (nI 0)), (2, .int (nI 1)), (1, .int (nI 105)), (0, .ref h)]) cx dX5_command_124 rfl (by decide) rfl ?_
      refine g_iload_n cx dX5_command_125 rfl ?_
      refine g_bipush cx dX5_command_126 kc_b103 ?_
      refine g_icmp_eq (tgt := 135) cx dX5_command_128 (by decide) (fun z48 => absurd z48 (by decide +kernel)) (fun z48 => ?_)
      have z48 := gn_ne (a := 105) (b := 103) z48
      refine g_iconst cx dX5_command_131 kc_i0 ?_
      refine g_goto (tgt := 159) cx dX5_command_132 (by decide) ?_
      refine g_istore (lv' := [(4, .int (nI 0)), (3, .int (nI 0)), (2, .int (nI 1)), (1, .int (nI 105)), (0, .ref h)]) cx dX5_command_159 (by decide) rfl ?_
      refine g_aload_n cx dX5_command_161 rfl ?_
      refine g_get (C := RX5) (T := TX5) (N := 14) (ci := 5) cx hiX5 0 9 (by decide) rfl (by decide +kernel) rfl rfl dX5_command_162 ?_
      refine g_iconst cx dX5_command_165 kc_i3 ?_
      refine g_aload_n cx dX5_command_166 rfl ?_
      refine g_get (C := RX5) (T := TX5) (N := 14) (ci := 5) cx hiX5 0 10 (by decide) rfl (by decide +kernel) rfl rfl dX5_command_167 ?_
      refine g_imul cx dX5_command_170 ?_
      refine g_top (pk_mul 3 tlN) ?_
      refine g_iload_n cx dX5_command_171 rfl ?_
      refine g_iast (ws' := [(h, .inr (5, [.ref an, .ref ap_, .ref asl, .ref ah, .int (nI hN), .ref ax, .int (nI tyN), .int th, .int (nI (at_ + 1)), .ref atd, .int (nI tlN), .ref av, .ref ae, .int go])), (an, .inl (E.2.1 0, 67, .inl nw)), (ap_, .inl (E.2.1 0, 402, .inl ps)), (asl, .inl (E.2.1 0, 134, .inl sl)), (ah, .inl (E.2.1 0, 2, .inl hsl)), (ax, .inl (E.2.1 0, 80, .inl (fun j => nI (T j)))), (atd, .inl (E.2.1 0, 123, .inl (upd td (3 * tlN) (nI 105)))), (av, .inl (E.2.1 0, 64, .inl va)), (ae, .inl (E.2.1 0, 64, .inl er))]) cx 6 rfl rfl (vp_in_nI (by omega) (by omega)) (by rw [nI_clamp (by omega)]; rfl) dX5_command_172 ?_
      refine g_aload_n cx dX5_command_173 rfl ?_
      refine g_get (C := RX5) (T := TX5) (N := 14) (ci := 5) cx hiX5 0 9 (by decide) rfl (by decide +kernel) rfl rfl dX5_command_174 ?_
      refine g_iconst cx dX5_command_177 kc_i3 ?_
      refine g_aload_n cx dX5_command_178 rfl ?_
      refine g_get (C := RX5) (T := TX5) (N := 14) (ci := 5) cx hiX5 0 10 (by decide) rfl (by decide +kernel) rfl rfl dX5_command_179 ?_
      refine g_imul cx dX5_command_182 ?_
      refine g_top (pk_mul 3 tlN) ?_
      refine g_iconst cx dX5_command_183 kc_i1 ?_
      refine g_iadd cx dX5_command_184 ?_
      refine g_top (nI_add (3 * tlN) 1) ?_
      refine g_iload_n cx dX5_command_185 rfl ?_
      refine g_iast (ws' := [(h, .inr (5, [.ref an, .ref ap_, .ref asl, .ref ah, .int (nI hN), .ref ax, .int (nI tyN), .int th, .int (nI (at_ + 1)), .ref atd, .int (nI tlN), .ref av, .ref ae, .int go])), (an, .inl (E.2.1 0, 67, .inl nw)), (ap_, .inl (E.2.1 0, 402, .inl ps)), (asl, .inl (E.2.1 0, 134, .inl sl)), (ah, .inl (E.2.1 0, 2, .inl hsl)), (ax, .inl (E.2.1 0, 80, .inl (fun j => nI (T j)))), (atd, .inl (E.2.1 0, 123, .inl (upd (upd td (3 * tlN) (nI 105)) ((3 * tlN) + 1) (nI 0)))), (av, .inl (E.2.1 0, 64, .inl va)), (ae, .inl (E.2.1 0, 64, .inl er))]) cx 6 rfl rfl (vp_in_nI (by omega) (by omega)) (by rw [nI_clamp (by omega)]; rfl) dX5_command_186 ?_
      refine g_aload_n cx dX5_command_187 rfl ?_
      refine g_get (C := RX5) (T := TX5) (N := 14) (ci := 5) cx hiX5 0 9 (by decide) rfl (by decide +kernel) rfl rfl dX5_command_188 ?_
      refine g_iconst cx dX5_command_191 kc_i3 ?_
      refine g_aload_n cx dX5_command_192 rfl ?_
      refine g_get (C := RX5) (T := TX5) (N := 14) (ci := 5) cx hiX5 0 10 (by decide) rfl (by decide +kernel) rfl rfl dX5_command_193 ?_
      refine g_imul cx dX5_command_196 ?_
      refine g_top (pk_mul 3 tlN) ?_
      refine g_iconst cx dX5_command_197 kc_i2 ?_
      refine g_iadd cx dX5_command_198 ?_
      refine g_top (nI_add (3 * tlN) 2) ?_
      refine g_iload cx dX5_command_199 rfl ?_
      refine g_iast (ws' := [(h, .inr (5, [.ref an, .ref ap_, .ref asl, .ref ah, .int (nI hN), .ref ax, .int (nI tyN), .int th, .int (nI (at_ + 1)), .ref atd, .int (nI tlN), .ref av, .ref ae, .int go])), (an, .inl (E.2.1 0, 67, .inl nw)), (ap_, .inl (E.2.1 0, 402, .inl ps)), (asl, .inl (E.2.1 0, 134, .inl sl)), (ah, .inl (E.2.1 0, 2, .inl hsl)), (ax, .inl (E.2.1 0, 80, .inl (fun j => nI (T j)))), (atd, .inl (E.2.1 0, 123, .inl (upd (upd (upd td (3 * tlN) (nI 105)) ((3 * tlN) + 1) (nI 0)) ((3 * tlN) + 2) (nI 0)))), (av, .inl (E.2.1 0, 64, .inl va)), (ae, .inl (E.2.1 0, 64, .inl er))]) cx 6 rfl rfl (vp_in_nI (by omega) (by omega)) (by rw [nI_clamp (by omega)]; rfl) dX5_command_201 ?_
      refine g_aload_n cx dX5_command_202 rfl ?_
      refine g_dup cx dX5_command_203 rfl ?_
      refine g_get (C := RX5) (T := TX5) (N := 14) (ci := 5) cx hiX5 0 10 (by decide) rfl (by decide +kernel) rfl rfl dX5_command_204 ?_
      refine g_iconst cx dX5_command_207 kc_i1 ?_
      refine g_iadd cx dX5_command_208 ?_
      refine g_top (nI_add tlN 1) ?_
      refine g_put (ws' := [(h, .inr (5, [.ref an, .ref ap_, .ref asl, .ref ah, .int (nI hN), .ref ax, .int (nI tyN), .int th, .int (nI (at_ + 1)), .ref atd, .int (nI (tlN + 1)), .ref av, .ref ae, .int go])), (an, .inl (E.2.1 0, 67, .inl nw)), (ap_, .inl (E.2.1 0, 402, .inl ps)), (asl, .inl (E.2.1 0, 134, .inl sl)), (ah, .inl (E.2.1 0, 2, .inl hsl)), (ax, .inl (E.2.1 0, 80, .inl (fun j => nI (T j)))), (atd, .inl (E.2.1 0, 123, .inl (upd (upd (upd td (3 * tlN) (nI 105)) ((3 * tlN) + 1) (nI 0)) ((3 * tlN) + 2) (nI 0)))), (av, .inl (E.2.1 0, 64, .inl va)), (ae, .inl (E.2.1 0, 64, .inl er))]) (C := RX5) (T := TX5) (N := 14) (ci := 5) cx hiX5 tyX5 tyX5_ok nmX5 0 10 (by decide) rfl (by decide +kernel) rfl rfl rfl rfl rfl (Nat.le_of_ble_eq_true rfl) rfl dX5_command_209 ?_
      refine g_iload_n cx dX5_command_212 rfl ?_
      refine g_if_lt (tgt := 225) cx dX5_command_213 (by decide) (fun z49 => absurd z49 (by decide +kernel)) (fun z49 => ?_)
      have z49 := gn_nlt (a := 0) (b := 0) (by omega) (by omega) z49
      refine g_iload cx dX5_command_216 rfl ?_
      refine g_if_lt (tgt := 225) cx dX5_command_218 (by decide) (fun z50 => absurd z50 (by decide +kernel)) (fun z50 => ?_)
      have z50 := gn_nlt (a := 0) (b := 0) (by omega) (by omega) z50
      refine g_iconst cx dX5_command_221 kc_i1 ?_
      refine g_goto (tgt := 226) cx dX5_command_222 (by decide) ?_
      exact g_zretE cx (by decide +kernel) dX5_command_226 (by rw [hq] <;> rfl) (by rw [hq]; first | exact gB_t | exact gB_f)
    ·
      by_cases h116 : at_ < tyN ∧ T at_ = 116
      ·
        by_cases hd1 : at_ + 1 < tyN ∧ bR (nI (T (at_ + 1))) 48 57 = true
        ·
          have hf1 := nm1_f (most := 999) hd1 hT (by omega)
          have hq : cmd T tyN at_ = (true, (nm1 T tyN 999 (at_ + 1)).2, 116, nI (nm1 T tyN 999 (at_ + 1)).1, nI 0) := by unfold cmd; rw [if_neg h103, if_neg h105, if_pos h116, if_pos hd1]
          refine g_aload_n cx dX5_command_0 rfl ?_
          refine g_bipush cx dX5_command_1 kc_b103 ?_
          refine g_callV (ws' := [(h, .inr (5, [.ref an, .ref ap_, .ref asl, .ref ah, .int (nI hN), .ref ax, .int (nI tyN), .int th, .int (nI at_), .ref atd, .int (nI tlN), .ref av, .ref ae, .int go])), (an, .inl (E.2.1 0, 67, .inl nw)), (ap_, .inl (E.2.1 0, 402, .inl ps)), (asl, .inl (E.2.1 0, 134, .inl sl)), (ah, .inl (E.2.1 0, 2, .inl hsl)), (ax, .inl (E.2.1 0, 80, .inl (fun j => nI (T j)))), (atd, .inl (E.2.1 0, 123, .inl td)), (av, .inl (E.2.1 0, 64, .inl va)), (ae, .inl (E.2.1 0, 64, .inl er))]) (As := [.int (nI 103)]) (rest := []) (n := 1) (T := TX5) (N := 14) (ci := 5) cx (c_X5_sees_f l E h an ap_ asl ah ax atd av ae nw ps sl hsl td va er T hN tyN at_ tlN th go 103 h103 (by omega) (by omega) (by omega) hT) gX5_command_X5_sees rfl (by decide +kernel) rfl rfl ⟨Nat.le_of_ble_eq_true rfl, Nat.le_of_ble_eq_true rfl⟩ ⟨Nat.zero_le _, Nat.zero_le _⟩ [0, 1, 2, 3, 4, 5, 6, 7, 8] 0 rfl rfl (by decide) rfl rfl rfl rfl (Nat.le_of_ble_eq_true rfl) dX5_command_3 ?_
          refine g_if_eq (tgt := 14) cx dX5_command_6 (by decide) (fun z51 => ?_) (fun z51 => absurd ((rfl : false = false).symm.trans (gB_ne0 z51)) (by decide))
          have z51 := gB_eq0 z51
          refine g_aload_n cx dX5_command_14 rfl ?_
          refine g_bipush cx dX5_command_15 kc_b105 ?_
          refine g_callV (ws' := [(h, .inr (5, [.ref an, .ref ap_, .ref asl, .ref ah, .int (nI hN), .ref ax, .int (nI tyN), .int th, .int (nI at_), .ref atd, .int (nI tlN), .ref av, .ref ae, .int go])), (an, .inl (E.2.1 0, 67, .inl nw)), (ap_, .inl (E.2.1 0, 402, .inl ps)), (asl, .inl (E.2.1 0, 134, .inl sl)), (ah, .inl (E.2.1 0, 2, .inl hsl)), (ax, .inl (E.2.1 0, 80, .inl (fun j => nI (T j)))), (atd, .inl (E.2.1 0, 123, .inl td)), (av, .inl (E.2.1 0, 64, .inl va)), (ae, .inl (E.2.1 0, 64, .inl er))]) (As := [.int (nI 105)]) (rest := []) (n := 1) (T := TX5) (N := 14) (ci := 5) cx (c_X5_sees_f l E h an ap_ asl ah ax atd av ae nw ps sl hsl td va er T hN tyN at_ tlN th go 105 h105 (by omega) (by omega) (by omega) hT) gX5_command_X5_sees rfl (by decide +kernel) rfl rfl ⟨Nat.le_of_ble_eq_true rfl, Nat.le_of_ble_eq_true rfl⟩ ⟨Nat.zero_le _, Nat.zero_le _⟩ [0, 1, 2, 3, 4, 5, 6, 7, 8] 0 rfl rfl (by decide) rfl rfl rfl rfl (Nat.le_of_ble_eq_true rfl) dX5_command_17 ?_
          refine g_if_eq (tgt := 28) cx dX5_command_20 (by decide) (fun z52 => ?_) (fun z52 => absurd ((rfl : false = false).symm.trans (gB_ne0 z52)) (by decide))
          have z52 := gB_eq0 z52
          refine g_aload_n cx dX5_command_28 rfl ?_
          refine g_bipush cx dX5_command_29 kc_b116 ?_
          refine g_callV (ws' := [(h, .inr (5, [.ref an, .ref ap_, .ref asl, .ref ah, .int (nI hN), .ref ax, .int (nI tyN), .int th, .int (nI (at_ + 1)), .ref atd, .int (nI tlN), .ref av, .ref ae, .int go])), (an, .inl (E.2.1 0, 67, .inl nw)), (ap_, .inl (E.2.1 0, 402, .inl ps)), (asl, .inl (E.2.1 0, 134, .inl sl)), (ah, .inl (E.2.1 0, 2, .inl hsl)), (ax, .inl (E.2.1 0, 80, .inl (fun j => nI (T j)))), (atd, .inl (E.2.1 0, 123, .inl td)), (av, .inl (E.2.1 0, 64, .inl va)), (ae, .inl (E.2.1 0, 64, .inl er))]) (As := [.int (nI 116)]) (rest := []) (n := 1) (T := TX5) (N := 14) (ci := 5) cx (c_X5_sees_t l E h an ap_ asl ah ax atd av ae nw ps sl hsl td va er T hN tyN at_ tlN th go 116 h116.1 h116.2 (by omega) hT) gX5_command_X5_sees rfl (by decide +kernel) rfl rfl ⟨Nat.le_of_ble_eq_true rfl, Nat.le_of_ble_eq_true rfl⟩ ⟨Nat.zero_le _, Nat.zero_le _⟩ [0, 1, 2, 3, 4, 5, 6, 7, 8] 0 rfl rfl (by decide) rfl rfl rfl rfl (Nat.le_of_ble_eq_true rfl) dX5_command_31 ?_
          refine g_if_eq (tgt := 42) cx dX5_command_34 (by decide) (fun z53 => absurd ((rfl : true = true).symm.trans (gB_eq0 z53)) (by decide)) (fun z53 => ?_)
          have z53 := gB_ne0 z53
          refine g_bipush cx dX5_command_37 kc_b116 ?_
          refine g_goto (tgt := 71) cx dX5_command_39 (by decide) ?_
          refine g_istore_n (lv' := [(1, .int (nI 116)), (0, .ref h)]) cx dX5_command_71 rfl (by decide) rfl ?_
          refine g_iload_n cx dX5_command_72 rfl ?_
          refine g_bipush cx dX5_command_73 kc_b105 ?_
          refine g_icmp_eq (tgt := 84) cx dX5_command_75 (by decide) (fun z54 => absurd z54 (by decide +kernel)) (fun z54 => ?_)
          have z54 := gn_ne (a := 116) (b := 105) z54
          refine g_iload_n cx dX5_command_78 rfl ?_
          refine g_bipush cx dX5_command_79 kc_b119 ?_
          refine g_icmp_ne (tgt := 88) cx dX5_command_81 (by decide) (fun z55 => ?_) (fun z55 => absurd z55 (by decide +kernel))
          have z55 := gn_ne (a := 116) (b := 119) z55
          refine g_iconst cx dX5_command_88 kc_i0 ?_
          refine g_istore_n (lv' := [(2, .int (nI 0)), (1, .int (nI 116)), (0, .ref h)]) cx dX5_command_89 rfl (by decide) rfl ?_
          refine g_iload_n cx dX5_command_90 rfl ?_
          refine g_if_ne (tgt := 98) cx dX5_command_91 (by decide) (fun z56 => ?_) (fun z56 => absurd z56 (by decide +kernel))
          have z56 := gn_ne0 z56
          refine g_iload_n cx dX5_command_98 rfl ?_
          refine g_if_eq (tgt := 106) cx dX5_command_99 (by decide) (fun z57 => ?_) (fun z57 => absurd z57 (by decide +kernel))
          have z57 := gn_eq0 (by omega) z57
          refine g_aload_n cx dX5_command_106 rfl ?_
          refine g_iload_n cx dX5_command_107 rfl ?_
          refine g_bipush cx dX5_command_108 kc_b114 ?_
          refine g_icmp_ne (tgt := 118) cx dX5_command_110 (by decide) (fun z58 => ?_) (fun z58 => absurd z58 (by decide +kernel))
          have z58 := gn_ne (a := 116) (b := 114) z58
          refine g_sipush cx dX5_command_118 kc_s999 ?_
          refine g_callV (ws' := [(h, .inr (5, [.ref an, .ref ap_, .ref asl, .ref ah, .int (nI hN), .ref ax, .int (nI tyN), .int th, .int (nI ((nm1 T tyN 999 (at_ + 1)).2)), .ref atd, .int (nI tlN), .ref av, .ref ae, .int go])), (an, .inl (E.2.1 0, 67, .inl nw)), (ap_, .inl (E.2.1 0, 402, .inl ps)), (asl, .inl (E.2.1 0, 134, .inl sl)), (ah, .inl (E.2.1 0, 2, .inl hsl)), (ax, .inl (E.2.1 0, 80, .inl (fun j => nI (T j)))), (atd, .inl (E.2.1 0, 123, .inl td)), (av, .inl (E.2.1 0, 64, .inl va)), (ae, .inl (E.2.1 0, 64, .inl er))]) (As := [.int (nI 999)]) (rest := []) (n := 1) (T := TX5) (N := 14) (ci := 5) cx (c_X5_number_y l E h an ap_ asl ah ax atd av ae nw ps sl hsl td va er T hN tyN (at_ + 1) tlN th go 999 hd1.1 hd1.2 (by omega) (by omega) (by omega) hT) gX5_command_X5_number rfl (by decide +kernel) rfl rfl ⟨Nat.le_of_ble_eq_true rfl, Nat.le_of_ble_eq_true rfl⟩ ⟨Nat.zero_le _, Nat.zero_le _⟩ [0, 1, 2, 3, 4, 5, 6, 7, 8] 0 rfl rfl (by decide) rfl rfl rfl rfl (Nat.le_of_ble_eq_true rfl) dX5_command_121 ?_
          refine g_istore_n (lv' := [(3, .int (nI ((nm1 T tyN 999 (at_ + 1)).1))), (2, .int (nI 0)), (1, .int (nI 116)), (0, .ref h)]) cx dX5_command_124 rfl (by decide) rfl ?_
          refine g_iload_n cx dX5_command_125 rfl ?_
          refine g_bipush cx dX5_command_126 kc_b103 ?_
          refine g_icmp_eq (tgt := 135) cx dX5_command_128 (by decide) (fun z59 => absurd z59 (by decide +kernel)) (fun z59 => ?_)
          have z59 := gn_ne (a := 116) (b := 103) z59
          refine g_iconst cx dX5_command_131 kc_i0 ?_
          refine g_goto (tgt := 159) cx dX5_command_132 (by decide) ?_
          refine g_istore (lv' := [(4, .int (nI 0)), (3, .int (nI ((nm1 T tyN 999 (at_ + 1)).1))), (2, .int (nI 0)), (1, .int (nI 116)), (0, .ref h)]) cx dX5_command_159 (by decide) rfl ?_
          refine g_aload_n cx dX5_command_161 rfl ?_
          refine g_get (C := RX5) (T := TX5) (N := 14) (ci := 5) cx hiX5 0 9 (by decide) rfl (by decide +kernel) rfl rfl dX5_command_162 ?_
          refine g_iconst cx dX5_command_165 kc_i3 ?_
          refine g_aload_n cx dX5_command_166 rfl ?_
          refine g_get (C := RX5) (T := TX5) (N := 14) (ci := 5) cx hiX5 0 10 (by decide) rfl (by decide +kernel) rfl rfl dX5_command_167 ?_
          refine g_imul cx dX5_command_170 ?_
          refine g_top (pk_mul 3 tlN) ?_
          refine g_iload_n cx dX5_command_171 rfl ?_
          refine g_iast (ws' := [(h, .inr (5, [.ref an, .ref ap_, .ref asl, .ref ah, .int (nI hN), .ref ax, .int (nI tyN), .int th, .int (nI ((nm1 T tyN 999 (at_ + 1)).2)), .ref atd, .int (nI tlN), .ref av, .ref ae, .int go])), (an, .inl (E.2.1 0, 67, .inl nw)), (ap_, .inl (E.2.1 0, 402, .inl ps)), (asl, .inl (E.2.1 0, 134, .inl sl)), (ah, .inl (E.2.1 0, 2, .inl hsl)), (ax, .inl (E.2.1 0, 80, .inl (fun j => nI (T j)))), (atd, .inl (E.2.1 0, 123, .inl (upd td (3 * tlN) (nI 116)))), (av, .inl (E.2.1 0, 64, .inl va)), (ae, .inl (E.2.1 0, 64, .inl er))]) cx 6 rfl rfl (vp_in_nI (by omega) (by omega)) (by rw [nI_clamp (by omega)]; rfl) dX5_command_172 ?_
          refine g_aload_n cx dX5_command_173 rfl ?_
          refine g_get (C := RX5) (T := TX5) (N := 14) (ci := 5) cx hiX5 0 9 (by decide) rfl (by decide +kernel) rfl rfl dX5_command_174 ?_
          refine g_iconst cx dX5_command_177 kc_i3 ?_
          refine g_aload_n cx dX5_command_178 rfl ?_
          refine g_get (C := RX5) (T := TX5) (N := 14) (ci := 5) cx hiX5 0 10 (by decide) rfl (by decide +kernel) rfl rfl dX5_command_179 ?_
          refine g_imul cx dX5_command_182 ?_
          refine g_top (pk_mul 3 tlN) ?_
          refine g_iconst cx dX5_command_183 kc_i1 ?_
          refine g_iadd cx dX5_command_184 ?_
          refine g_top (nI_add (3 * tlN) 1) ?_
          refine g_iload_n cx dX5_command_185 rfl ?_
          refine g_iast (ws' := [(h, .inr (5, [.ref an, .ref ap_, .ref asl, .ref ah, .int (nI hN), .ref ax, .int (nI tyN), .int th, .int (nI ((nm1 T tyN 999 (at_ + 1)).2)), .ref atd, .int (nI tlN), .ref av, .ref ae, .int go])), (an, .inl (E.2.1 0, 67, .inl nw)), (ap_, .inl (E.2.1 0, 402, .inl ps)), (asl, .inl (E.2.1 0, 134, .inl sl)), (ah, .inl (E.2.1 0, 2, .inl hsl)), (ax, .inl (E.2.1 0, 80, .inl (fun j => nI (T j)))), (atd, .inl (E.2.1 0, 123, .inl (upd (upd td (3 * tlN) (nI 116)) ((3 * tlN) + 1) (nI ((nm1 T tyN 999 (at_ + 1)).1))))), (av, .inl (E.2.1 0, 64, .inl va)), (ae, .inl (E.2.1 0, 64, .inl er))]) cx 6 rfl rfl (vp_in_nI (by omega) (by omega)) (by rw [nI_clamp (by omega)]; rfl) dX5_command_186 ?_
          refine g_aload_n cx dX5_command_187 rfl ?_
          refine g_get (C := RX5) (T := TX5) (N := 14) (ci := 5) cx hiX5 0 9 (by decide) rfl (by decide +kernel) rfl rfl dX5_command_188 ?_
          refine g_iconst cx dX5_command_191 kc_i3 ?_
          refine g_aload_n cx dX5_command_192 rfl ?_
          refine g_get (C := RX5) (T := TX5) (N := 14) (ci := 5) cx hiX5 0 10 (by decide) rfl (by decide +kernel) rfl rfl dX5_command_193 ?_
          refine g_imul cx dX5_command_196 ?_
          refine g_top (pk_mul 3 tlN) ?_
          refine g_iconst cx dX5_command_197 kc_i2 ?_
          refine g_iadd cx dX5_command_198 ?_
          refine g_top (nI_add (3 * tlN) 2) ?_
          refine g_iload cx dX5_command_199 rfl ?_
          refine g_iast (ws' := [(h, .inr (5, [.ref an, .ref ap_, .ref asl, .ref ah, .int (nI hN), .ref ax, .int (nI tyN), .int th, .int (nI ((nm1 T tyN 999 (at_ + 1)).2)), .ref atd, .int (nI tlN), .ref av, .ref ae, .int go])), (an, .inl (E.2.1 0, 67, .inl nw)), (ap_, .inl (E.2.1 0, 402, .inl ps)), (asl, .inl (E.2.1 0, 134, .inl sl)), (ah, .inl (E.2.1 0, 2, .inl hsl)), (ax, .inl (E.2.1 0, 80, .inl (fun j => nI (T j)))), (atd, .inl (E.2.1 0, 123, .inl (upd (upd (upd td (3 * tlN) (nI 116)) ((3 * tlN) + 1) (nI ((nm1 T tyN 999 (at_ + 1)).1))) ((3 * tlN) + 2) (nI 0)))), (av, .inl (E.2.1 0, 64, .inl va)), (ae, .inl (E.2.1 0, 64, .inl er))]) cx 6 rfl rfl (vp_in_nI (by omega) (by omega)) (by rw [nI_clamp (by omega)]; rfl) dX5_command_201 ?_
          refine g_aload_n cx dX5_command_202 rfl ?_
          refine g_dup cx dX5_command_203 rfl ?_
          refine g_get (C := RX5) (T := TX5) (N := 14) (ci := 5) cx hiX5 0 10 (by decide) rfl (by decide +kernel) rfl rfl dX5_command_204 ?_
          refine g_iconst cx dX5_command_207 kc_i1 ?_
          refine g_iadd cx dX5_command_208 ?_
          refine g_top (nI_add tlN 1) ?_
          refine g_put (ws' := [(h, .inr (5, [.ref an, .ref ap_, .ref asl, .ref ah, .int (nI hN), .ref ax, .int (nI tyN), .int th, .int (nI ((nm1 T tyN 999 (at_ + 1)).2)), .ref atd, .int (nI (tlN + 1)), .ref av, .ref ae, .int go])), (an, .inl (E.2.1 0, 67, .inl nw)), (ap_, .inl (E.2.1 0, 402, .inl ps)), (asl, .inl (E.2.1 0, 134, .inl sl)), (ah, .inl (E.2.1 0, 2, .inl hsl)), (ax, .inl (E.2.1 0, 80, .inl (fun j => nI (T j)))), (atd, .inl (E.2.1 0, 123, .inl (upd (upd (upd td (3 * tlN) (nI 116)) ((3 * tlN) + 1) (nI ((nm1 T tyN 999 (at_ + 1)).1))) ((3 * tlN) + 2) (nI 0)))), (av, .inl (E.2.1 0, 64, .inl va)), (ae, .inl (E.2.1 0, 64, .inl er))]) (C := RX5) (T := TX5) (N := 14) (ci := 5) cx hiX5 tyX5 tyX5_ok nmX5 0 10 (by decide) rfl (by decide +kernel) rfl rfl rfl rfl rfl (Nat.le_of_ble_eq_true rfl) rfl dX5_command_209 ?_
          refine g_iload_n cx dX5_command_212 rfl ?_
          refine g_if_lt (tgt := 225) cx dX5_command_213 (by decide) (fun z60 => absurd z60 (nI_pos (by omega))) (fun z60 => ?_)
          have z60 := gn_nlt (a := (nm1 T tyN 999 (at_ + 1)).1) (b := 0) (by omega) (by omega) z60
          refine g_iload cx dX5_command_216 rfl ?_
          refine g_if_lt (tgt := 225) cx dX5_command_218 (by decide) (fun z61 => absurd z61 (by decide +kernel)) (fun z61 => ?_)
          have z61 := gn_nlt (a := 0) (b := 0) (by omega) (by omega) z61
          refine g_iconst cx dX5_command_221 kc_i1 ?_
          refine g_goto (tgt := 226) cx dX5_command_222 (by decide) ?_
          exact g_zretE cx (by decide +kernel) dX5_command_226 (by rw [hq] <;> rfl) (by rw [hq]; first | exact gB_t | exact gB_f)
        ·
          have hq : cmd T tyN at_ = (false, at_ + 1, 116, -1, nI 0) := by unfold cmd; rw [if_neg h103, if_neg h105, if_pos h116, if_neg hd1]
          refine g_aload_n cx dX5_command_0 rfl ?_
          refine g_bipush cx dX5_command_1 kc_b103 ?_
          refine g_callV (ws' := [(h, .inr (5, [.ref an, .ref ap_, .ref asl, .ref ah, .int (nI hN), .ref ax, .int (nI tyN), .int th, .int (nI at_), .ref atd, .int (nI tlN), .ref av, .ref ae, .int go])), (an, .inl (E.2.1 0, 67, .inl nw)), (ap_, .inl (E.2.1 0, 402, .inl ps)), (asl, .inl (E.2.1 0, 134, .inl sl)), (ah, .inl (E.2.1 0, 2, .inl hsl)), (ax, .inl (E.2.1 0, 80, .inl (fun j => nI (T j)))), (atd, .inl (E.2.1 0, 123, .inl td)), (av, .inl (E.2.1 0, 64, .inl va)), (ae, .inl (E.2.1 0, 64, .inl er))]) (As := [.int (nI 103)]) (rest := []) (n := 1) (T := TX5) (N := 14) (ci := 5) cx (c_X5_sees_f l E h an ap_ asl ah ax atd av ae nw ps sl hsl td va er T hN tyN at_ tlN th go 103 h103 (by omega) (by omega) (by omega) hT) gX5_command_X5_sees rfl (by decide +kernel) rfl rfl ⟨Nat.le_of_ble_eq_true rfl, Nat.le_of_ble_eq_true rfl⟩ ⟨Nat.zero_le _, Nat.zero_le _⟩ [0, 1, 2, 3, 4, 5, 6, 7, 8] 0 rfl rfl (by decide) rfl rfl rfl rfl (Nat.le_of_ble_eq_true rfl) dX5_command_3 ?_
          refine g_if_eq (tgt := 14) cx dX5_command_6 (by decide) (fun z62 => ?_) (fun z62 => absurd ((rfl : false = false).symm.trans (gB_ne0 z62)) (by decide))
          have z62 := gB_eq0 z62
          refine g_aload_n cx dX5_command_14 rfl ?_
          refine g_bipush cx dX5_command_15 kc_b105 ?_
          refine g_callV (ws' := [(h, .inr (5, [.ref an, .ref ap_, .ref asl, .ref ah, .int (nI hN), .ref ax, .int (nI tyN), .int th, .int (nI at_), .ref atd, .int (nI tlN), .ref av, .ref ae, .int go])), (an, .inl (E.2.1 0, 67, .inl nw)), (ap_, .inl (E.2.1 0, 402, .inl ps)), (asl, .inl (E.2.1 0, 134, .inl sl)), (ah, .inl (E.2.1 0, 2, .inl hsl)), (ax, .inl (E.2.1 0, 80, .inl (fun j => nI (T j)))), (atd, .inl (E.2.1 0, 123, .inl td)), (av, .inl (E.2.1 0, 64, .inl va)), (ae, .inl (E.2.1 0, 64, .inl er))]) (As := [.int (nI 105)]) (rest := []) (n := 1) (T := TX5) (N := 14) (ci := 5) cx (c_X5_sees_f l E h an ap_ asl ah ax atd av ae nw ps sl hsl td va er T hN tyN at_ tlN th go 105 h105 (by omega) (by omega) (by omega) hT) gX5_command_X5_sees rfl (by decide +kernel) rfl rfl ⟨Nat.le_of_ble_eq_true rfl, Nat.le_of_ble_eq_true rfl⟩ ⟨Nat.zero_le _, Nat.zero_le _⟩ [0, 1, 2, 3, 4, 5, 6, 7, 8] 0 rfl rfl (by decide) rfl rfl rfl rfl (Nat.le_of_ble_eq_true rfl) dX5_command_17 ?_
          refine g_if_eq (tgt := 28) cx dX5_command_20 (by decide) (fun z63 => ?_) (fun z63 => absurd ((rfl : false = false).symm.trans (gB_ne0 z63)) (by decide))
          have z63 := gB_eq0 z63
          refine g_aload_n cx dX5_command_28 rfl ?_
          refine g_bipush cx dX5_command_29 kc_b116 ?_
          refine g_callV (ws' := [(h, .inr (5, [.ref an, .ref ap_, .ref asl, .ref ah, .int (nI hN), .ref ax, .int (nI tyN), .int th, .int (nI (at_ + 1)), .ref atd, .int (nI tlN), .ref av, .ref ae, .int go])), (an, .inl (E.2.1 0, 67, .inl nw)), (ap_, .inl (E.2.1 0, 402, .inl ps)), (asl, .inl (E.2.1 0, 134, .inl sl)), (ah, .inl (E.2.1 0, 2, .inl hsl)), (ax, .inl (E.2.1 0, 80, .inl (fun j => nI (T j)))), (atd, .inl (E.2.1 0, 123, .inl td)), (av, .inl (E.2.1 0, 64, .inl va)), (ae, .inl (E.2.1 0, 64, .inl er))]) (As := [.int (nI 116)]) (rest := []) (n := 1) (T := TX5) (N := 14) (ci := 5) cx (c_X5_sees_t l E h an ap_ asl ah ax atd av ae nw ps sl hsl td va er T hN tyN at_ tlN th go 116 h116.1 h116.2 (by omega) hT) gX5_command_X5_sees rfl (by decide +kernel) rfl rfl ⟨Nat.le_of_ble_eq_true rfl, Nat.le_of_ble_eq_true rfl⟩ ⟨Nat.zero_le _, Nat.zero_le _⟩ [0, 1, 2, 3, 4, 5, 6, 7, 8] 0 rfl rfl (by decide) rfl rfl rfl rfl (Nat.le_of_ble_eq_true rfl) dX5_command_31 ?_
          refine g_if_eq (tgt := 42) cx dX5_command_34 (by decide) (fun z64 => absurd ((rfl : true = true).symm.trans (gB_eq0 z64)) (by decide)) (fun z64 => ?_)
          have z64 := gB_ne0 z64
          refine g_bipush cx dX5_command_37 kc_b116 ?_
          refine g_goto (tgt := 71) cx dX5_command_39 (by decide) ?_
          refine g_istore_n (lv' := [(1, .int (nI 116)), (0, .ref h)]) cx dX5_command_71 rfl (by decide) rfl ?_
          refine g_iload_n cx dX5_command_72 rfl ?_
          refine g_bipush cx dX5_command_73 kc_b105 ?_
          refine g_icmp_eq (tgt := 84) cx dX5_command_75 (by decide) (fun z65 => absurd z65 (by decide +kernel)) (fun z65 => ?_)
          have z65 := gn_ne (a := 116) (b := 105) z65
          refine g_iload_n cx dX5_command_78 rfl ?_
          refine g_bipush cx dX5_command_79 kc_b119 ?_
          refine g_icmp_ne (tgt := 88) cx dX5_command_81 (by decide) (fun z66 => ?_) (fun z66 => absurd z66 (by decide +kernel))
          have z66 := gn_ne (a := 116) (b := 119) z66
          refine g_iconst cx dX5_command_88 kc_i0 ?_
          refine g_istore_n (lv' := [(2, .int (nI 0)), (1, .int (nI 116)), (0, .ref h)]) cx dX5_command_89 rfl (by decide) rfl ?_
          refine g_iload_n cx dX5_command_90 rfl ?_
          refine g_if_ne (tgt := 98) cx dX5_command_91 (by decide) (fun z67 => ?_) (fun z67 => absurd z67 (by decide +kernel))
          have z67 := gn_ne0 z67
          refine g_iload_n cx dX5_command_98 rfl ?_
          refine g_if_eq (tgt := 106) cx dX5_command_99 (by decide) (fun z68 => ?_) (fun z68 => absurd z68 (by decide +kernel))
          have z68 := gn_eq0 (by omega) z68
          refine g_aload_n cx dX5_command_106 rfl ?_
          refine g_iload_n cx dX5_command_107 rfl ?_
          refine g_bipush cx dX5_command_108 kc_b114 ?_
          refine g_icmp_ne (tgt := 118) cx dX5_command_110 (by decide) (fun z69 => ?_) (fun z69 => absurd z69 (by decide +kernel))
          have z69 := gn_ne (a := 116) (b := 114) z69
          refine g_sipush cx dX5_command_118 kc_s999 ?_
          refine g_callV (ws' := [(h, .inr (5, [.ref an, .ref ap_, .ref asl, .ref ah, .int (nI hN), .ref ax, .int (nI tyN), .int th, .int (nI (at_ + 1)), .ref atd, .int (nI tlN), .ref av, .ref ae, .int go])), (an, .inl (E.2.1 0, 67, .inl nw)), (ap_, .inl (E.2.1 0, 402, .inl ps)), (asl, .inl (E.2.1 0, 134, .inl sl)), (ah, .inl (E.2.1 0, 2, .inl hsl)), (ax, .inl (E.2.1 0, 80, .inl (fun j => nI (T j)))), (atd, .inl (E.2.1 0, 123, .inl td)), (av, .inl (E.2.1 0, 64, .inl va)), (ae, .inl (E.2.1 0, 64, .inl er))]) (As := [.int (nI 999)]) (rest := []) (n := 1) (T := TX5) (N := 14) (ci := 5) cx (c_X5_number_n l E h an ap_ asl ah ax atd av ae nw ps sl hsl td va er T hN tyN (at_ + 1) tlN th go 999 hd1 (by omega) (by omega) hT) gX5_command_X5_number rfl (by decide +kernel) rfl rfl ⟨Nat.le_of_ble_eq_true rfl, Nat.le_of_ble_eq_true rfl⟩ ⟨Nat.zero_le _, Nat.zero_le _⟩ [0, 1, 2, 3, 4, 5, 6, 7, 8] 0 rfl rfl (by decide) rfl rfl rfl rfl (Nat.le_of_ble_eq_true rfl) dX5_command_121 ?_
          refine g_istore_n (lv' := [(3, .int (-1)), (2, .int (nI 0)), (1, .int (nI 116)), (0, .ref h)]) cx dX5_command_124 rfl (by decide) rfl ?_
          refine g_iload_n cx dX5_command_125 rfl ?_
          refine g_bipush cx dX5_command_126 kc_b103 ?_
          refine g_icmp_eq (tgt := 135) cx dX5_command_128 (by decide) (fun z70 => absurd z70 (by decide +kernel)) (fun z70 => ?_)
          have z70 := gn_ne (a := 116) (b := 103) z70
          refine g_iconst cx dX5_command_131 kc_i0 ?_
          refine g_goto (tgt := 159) cx dX5_command_132 (by decide) ?_
          refine g_istore (lv' := [(4, .int (nI 0)), (3, .int (-1)), (2, .int (nI 0)), (1, .int (nI 116)), (0, .ref h)]) cx dX5_command_159 (by decide) rfl ?_
          refine g_aload_n cx dX5_command_161 rfl ?_
          refine g_get (C := RX5) (T := TX5) (N := 14) (ci := 5) cx hiX5 0 9 (by decide) rfl (by decide +kernel) rfl rfl dX5_command_162 ?_
          refine g_iconst cx dX5_command_165 kc_i3 ?_
          refine g_aload_n cx dX5_command_166 rfl ?_
          refine g_get (C := RX5) (T := TX5) (N := 14) (ci := 5) cx hiX5 0 10 (by decide) rfl (by decide +kernel) rfl rfl dX5_command_167 ?_
          refine g_imul cx dX5_command_170 ?_
          refine g_top (pk_mul 3 tlN) ?_
          refine g_iload_n cx dX5_command_171 rfl ?_
          refine g_iast (ws' := [(h, .inr (5, [.ref an, .ref ap_, .ref asl, .ref ah, .int (nI hN), .ref ax, .int (nI tyN), .int th, .int (nI (at_ + 1)), .ref atd, .int (nI tlN), .ref av, .ref ae, .int go])), (an, .inl (E.2.1 0, 67, .inl nw)), (ap_, .inl (E.2.1 0, 402, .inl ps)), (asl, .inl (E.2.1 0, 134, .inl sl)), (ah, .inl (E.2.1 0, 2, .inl hsl)), (ax, .inl (E.2.1 0, 80, .inl (fun j => nI (T j)))), (atd, .inl (E.2.1 0, 123, .inl (upd td (3 * tlN) (nI 116)))), (av, .inl (E.2.1 0, 64, .inl va)), (ae, .inl (E.2.1 0, 64, .inl er))]) cx 6 rfl rfl (vp_in_nI (by omega) (by omega)) (by rw [nI_clamp (by omega)]; rfl) dX5_command_172 ?_
          refine g_aload_n cx dX5_command_173 rfl ?_
          refine g_get (C := RX5) (T := TX5) (N := 14) (ci := 5) cx hiX5 0 9 (by decide) rfl (by decide +kernel) rfl rfl dX5_command_174 ?_
          refine g_iconst cx dX5_command_177 kc_i3 ?_
          refine g_aload_n cx dX5_command_178 rfl ?_
          refine g_get (C := RX5) (T := TX5) (N := 14) (ci := 5) cx hiX5 0 10 (by decide) rfl (by decide +kernel) rfl rfl dX5_command_179 ?_
          refine g_imul cx dX5_command_182 ?_
          refine g_top (pk_mul 3 tlN) ?_
          refine g_iconst cx dX5_command_183 kc_i1 ?_
          refine g_iadd cx dX5_command_184 ?_
          refine g_top (nI_add (3 * tlN) 1) ?_
          refine g_iload_n cx dX5_command_185 rfl ?_
          refine g_iast (ws' := [(h, .inr (5, [.ref an, .ref ap_, .ref asl, .ref ah, .int (nI hN), .ref ax, .int (nI tyN), .int th, .int (nI (at_ + 1)), .ref atd, .int (nI tlN), .ref av, .ref ae, .int go])), (an, .inl (E.2.1 0, 67, .inl nw)), (ap_, .inl (E.2.1 0, 402, .inl ps)), (asl, .inl (E.2.1 0, 134, .inl sl)), (ah, .inl (E.2.1 0, 2, .inl hsl)), (ax, .inl (E.2.1 0, 80, .inl (fun j => nI (T j)))), (atd, .inl (E.2.1 0, 123, .inl (upd (upd td (3 * tlN) (nI 116)) ((3 * tlN) + 1) (-1)))), (av, .inl (E.2.1 0, 64, .inl va)), (ae, .inl (E.2.1 0, 64, .inl er))]) cx 6 rfl rfl (vp_in_nI (by omega) (by omega)) (by rw [nI_clamp (by omega)]; rfl) dX5_command_186 ?_
          refine g_aload_n cx dX5_command_187 rfl ?_
          refine g_get (C := RX5) (T := TX5) (N := 14) (ci := 5) cx hiX5 0 9 (by decide) rfl (by decide +kernel) rfl rfl dX5_command_188 ?_
          refine g_iconst cx dX5_command_191 kc_i3 ?_
          refine g_aload_n cx dX5_command_192 rfl ?_
          refine g_get (C := RX5) (T := TX5) (N := 14) (ci := 5) cx hiX5 0 10 (by decide) rfl (by decide +kernel) rfl rfl dX5_command_193 ?_
          refine g_imul cx dX5_command_196 ?_
          refine g_top (pk_mul 3 tlN) ?_
          refine g_iconst cx dX5_command_197 kc_i2 ?_
          refine g_iadd cx dX5_command_198 ?_
          refine g_top (nI_add (3 * tlN) 2) ?_
          refine g_iload cx dX5_command_199 rfl ?_
          refine g_iast (ws' := [(h, .inr (5, [.ref an, .ref ap_, .ref asl, .ref ah, .int (nI hN), .ref ax, .int (nI tyN), .int th, .int (nI (at_ + 1)), .ref atd, .int (nI tlN), .ref av, .ref ae, .int go])), (an, .inl (E.2.1 0, 67, .inl nw)), (ap_, .inl (E.2.1 0, 402, .inl ps)), (asl, .inl (E.2.1 0, 134, .inl sl)), (ah, .inl (E.2.1 0, 2, .inl hsl)), (ax, .inl (E.2.1 0, 80, .inl (fun j => nI (T j)))), (atd, .inl (E.2.1 0, 123, .inl (upd (upd (upd td (3 * tlN) (nI 116)) ((3 * tlN) + 1) (-1)) ((3 * tlN) + 2) (nI 0)))), (av, .inl (E.2.1 0, 64, .inl va)), (ae, .inl (E.2.1 0, 64, .inl er))]) cx 6 rfl rfl (vp_in_nI (by omega) (by omega)) (by rw [nI_clamp (by omega)]; rfl) dX5_command_201 ?_
          refine g_aload_n cx dX5_command_202 rfl ?_
          refine g_dup cx dX5_command_203 rfl ?_
          refine g_get (C := RX5) (T := TX5) (N := 14) (ci := 5) cx hiX5 0 10 (by decide) rfl (by decide +kernel) rfl rfl dX5_command_204 ?_
          refine g_iconst cx dX5_command_207 kc_i1 ?_
          refine g_iadd cx dX5_command_208 ?_
          refine g_top (nI_add tlN 1) ?_
          refine g_put (ws' := [(h, .inr (5, [.ref an, .ref ap_, .ref asl, .ref ah, .int (nI hN), .ref ax, .int (nI tyN), .int th, .int (nI (at_ + 1)), .ref atd, .int (nI (tlN + 1)), .ref av, .ref ae, .int go])), (an, .inl (E.2.1 0, 67, .inl nw)), (ap_, .inl (E.2.1 0, 402, .inl ps)), (asl, .inl (E.2.1 0, 134, .inl sl)), (ah, .inl (E.2.1 0, 2, .inl hsl)), (ax, .inl (E.2.1 0, 80, .inl (fun j => nI (T j)))), (atd, .inl (E.2.1 0, 123, .inl (upd (upd (upd td (3 * tlN) (nI 116)) ((3 * tlN) + 1) (-1)) ((3 * tlN) + 2) (nI 0)))), (av, .inl (E.2.1 0, 64, .inl va)), (ae, .inl (E.2.1 0, 64, .inl er))]) (C := RX5) (T := TX5) (N := 14) (ci := 5) cx hiX5 tyX5 tyX5_ok nmX5 0 10 (by decide) rfl (by decide +kernel) rfl rfl rfl rfl rfl (Nat.le_of_ble_eq_true rfl) rfl dX5_command_209 ?_
          refine g_iload_n cx dX5_command_212 rfl ?_
          refine g_if_lt (tgt := 225) cx dX5_command_213 (by decide) (fun z71 => ?_) (fun z71 => absurd z71 (by decide +kernel))
          have z71 := gi0_lt z71
          refine g_iconst cx dX5_command_225 kc_i0 ?_
          exact g_zretE cx (by decide +kernel) dX5_command_226 (by rw [hq] <;> rfl) (by rw [hq]; first | exact gB_t | exact gB_f)
      ·
        by_cases h119 : at_ < tyN ∧ T at_ = 119
        ·
          have hq : cmd T tyN at_ = (true, at_ + 1, 119, nI 0, nI 0) := by unfold cmd; rw [if_neg h103, if_neg h105, if_neg h116, if_pos h119]
          refine g_aload_n cx dX5_command_0 rfl ?_
          refine g_bipush cx dX5_command_1 kc_b103 ?_
          refine g_callV (ws' := [(h, .inr (5, [.ref an, .ref ap_, .ref asl, .ref ah, .int (nI hN), .ref ax, .int (nI tyN), .int th, .int (nI at_), .ref atd, .int (nI tlN), .ref av, .ref ae, .int go])), (an, .inl (E.2.1 0, 67, .inl nw)), (ap_, .inl (E.2.1 0, 402, .inl ps)), (asl, .inl (E.2.1 0, 134, .inl sl)), (ah, .inl (E.2.1 0, 2, .inl hsl)), (ax, .inl (E.2.1 0, 80, .inl (fun j => nI (T j)))), (atd, .inl (E.2.1 0, 123, .inl td)), (av, .inl (E.2.1 0, 64, .inl va)), (ae, .inl (E.2.1 0, 64, .inl er))]) (As := [.int (nI 103)]) (rest := []) (n := 1) (T := TX5) (N := 14) (ci := 5) cx (c_X5_sees_f l E h an ap_ asl ah ax atd av ae nw ps sl hsl td va er T hN tyN at_ tlN th go 103 h103 (by omega) (by omega) (by omega) hT) gX5_command_X5_sees rfl (by decide +kernel) rfl rfl ⟨Nat.le_of_ble_eq_true rfl, Nat.le_of_ble_eq_true rfl⟩ ⟨Nat.zero_le _, Nat.zero_le _⟩ [0, 1, 2, 3, 4, 5, 6, 7, 8] 0 rfl rfl (by decide) rfl rfl rfl rfl (Nat.le_of_ble_eq_true rfl) dX5_command_3 ?_
          refine g_if_eq (tgt := 14) cx dX5_command_6 (by decide) (fun z72 => ?_) (fun z72 => absurd ((rfl : false = false).symm.trans (gB_ne0 z72)) (by decide))
          have z72 := gB_eq0 z72
          refine g_aload_n cx dX5_command_14 rfl ?_
          refine g_bipush cx dX5_command_15 kc_b105 ?_
          refine g_callV (ws' := [(h, .inr (5, [.ref an, .ref ap_, .ref asl, .ref ah, .int (nI hN), .ref ax, .int (nI tyN), .int th, .int (nI at_), .ref atd, .int (nI tlN), .ref av, .ref ae, .int go])), (an, .inl (E.2.1 0, 67, .inl nw)), (ap_, .inl (E.2.1 0, 402, .inl ps)), (asl, .inl (E.2.1 0, 134, .inl sl)), (ah, .inl (E.2.1 0, 2, .inl hsl)), (ax, .inl (E.2.1 0, 80, .inl (fun j => nI (T j)))), (atd, .inl (E.2.1 0, 123, .inl td)), (av, .inl (E.2.1 0, 64, .inl va)), (ae, .inl (E.2.1 0, 64, .inl er))]) (As := [.int (nI 105)]) (rest := []) (n := 1) (T := TX5) (N := 14) (ci := 5) cx (c_X5_sees_f l E h an ap_ asl ah ax atd av ae nw ps sl hsl td va er T hN tyN at_ tlN th go 105 h105 (by omega) (by omega) (by omega) hT) gX5_command_X5_sees rfl (by decide +kernel) rfl rfl ⟨Nat.le_of_ble_eq_true rfl, Nat.le_of_ble_eq_true rfl⟩ ⟨Nat.zero_le _, Nat.zero_le _⟩ [0, 1, 2, 3, 4, 5, 6, 7, 8] 0 rfl rfl (by decide) rfl rfl rfl rfl (Nat.le_of_ble_eq_true rfl) dX5_command_17 ?_
          refine g_if_eq (tgt := 28) cx dX5_command_20 (by decide) (fun z73 => ?_) (fun z73 => absurd ((rfl : false = false).symm.trans (gB_ne0 z73)) (by decide))
          have z73 := gB_eq0 z73
          refine g_aload_n cx dX5_command_28 rfl ?_
          refine g_bipush cx dX5_command_29 kc_b116 ?_
          refine g_callV (ws' := [(h, .inr (5, [.ref an, .ref ap_, .ref asl, .ref ah, .int (nI hN), .ref ax, .int (nI tyN), .int th, .int (nI at_), .ref atd, .int (nI tlN), .ref av, .ref ae, .int go])), (an, .inl (E.2.1 0, 67, .inl nw)), (ap_, .inl (E.2.1 0, 402, .inl ps)), (asl, .inl (E.2.1 0, 134, .inl sl)), (ah, .inl (E.2.1 0, 2, .inl hsl)), (ax, .inl (E.2.1 0, 80, .inl (fun j => nI (T j)))), (atd, .inl (E.2.1 0, 123, .inl td)), (av, .inl (E.2.1 0, 64, .inl va)), (ae, .inl (E.2.1 0, 64, .inl er))]) (As := [.int (nI 116)]) (rest := []) (n := 1) (T := TX5) (N := 14) (ci := 5) cx (c_X5_sees_f l E h an ap_ asl ah ax atd av ae nw ps sl hsl td va er T hN tyN at_ tlN th go 116 h116 (by omega) (by omega) (by omega) hT) gX5_command_X5_sees rfl (by decide +kernel) rfl rfl ⟨Nat.le_of_ble_eq_true rfl, Nat.le_of_ble_eq_true rfl⟩ ⟨Nat.zero_le _, Nat.zero_le _⟩ [0, 1, 2, 3, 4, 5, 6, 7, 8] 0 rfl rfl (by decide) rfl rfl rfl rfl (Nat.le_of_ble_eq_true rfl) dX5_command_31 ?_
          refine g_if_eq (tgt := 42) cx dX5_command_34 (by decide) (fun z74 => ?_) (fun z74 => absurd ((rfl : false = false).symm.trans (gB_ne0 z74)) (by decide))
          have z74 := gB_eq0 z74
          refine g_aload_n cx dX5_command_42 rfl ?_
          refine g_bipush cx dX5_command_43 kc_b119 ?_
          refine g_callV (ws' := [(h, .inr (5, [.ref an, .ref ap_, .ref asl, .ref ah, .int (nI hN), .ref ax, .int (nI tyN), .int th, .int (nI (at_ + 1)), .ref atd, .int (nI tlN), .ref av, .ref ae, .int go])), (an, .inl (E.2.1 0, 67, .inl nw)), (ap_, .inl (E.2.1 0, 402, .inl ps)), (asl, .inl (E.2.1 0, 134, .inl sl)), (ah, .inl (E.2.1 0, 2, .inl hsl)), (ax, .inl (E.2.1 0, 80, .inl (fun j => nI (T j)))), (atd, .inl (E.2.1 0, 123, .inl td)), (av, .inl (E.2.1 0, 64, .inl va)), (ae, .inl (E.2.1 0, 64, .inl er))]) (As := [.int (nI 119)]) (rest := []) (n := 1) (T := TX5) (N := 14) (ci := 5) cx (c_X5_sees_t l E h an ap_ asl ah ax atd av ae nw ps sl hsl td va er T hN tyN at_ tlN th go 119 h119.1 h119.2 (by omega) hT) gX5_command_X5_sees rfl (by decide +kernel) rfl rfl ⟨Nat.le_of_ble_eq_true rfl, Nat.le_of_ble_eq_true rfl⟩ ⟨Nat.zero_le _, Nat.zero_le _⟩ [0, 1, 2, 3, 4, 5, 6, 7, 8] 0 rfl rfl (by decide) rfl rfl rfl rfl (Nat.le_of_ble_eq_true rfl) dX5_command_45 ?_
          refine g_if_eq (tgt := 56) cx dX5_command_48 (by decide) (fun z75 => absurd ((rfl : true = true).symm.trans (gB_eq0 z75)) (by decide)) (fun z75 => ?_)
          have z75 := gB_ne0 z75
          refine g_bipush cx dX5_command_51 kc_b119 ?_
          refine g_goto (tgt := 71) cx dX5_command_53 (by decide) ?_
          refine g_istore_n (lv' := [(1, .int (nI 119)), (0, .ref h)]) cx dX5_command_71 rfl (by decide) rfl ?_
          refine g_iload_n cx dX5_command_72 rfl ?_
          refine g_bipush cx dX5_command_73 kc_b105 ?_
          refine g_icmp_eq (tgt := 84) cx dX5_command_75 (by decide) (fun z76 => absurd z76 (by decide +kernel)) (fun z76 => ?_)
          have z76 := gn_ne (a := 119) (b := 105) z76
          refine g_iload_n cx dX5_command_78 rfl ?_
          refine g_bipush cx dX5_command_79 kc_b119 ?_
          refine g_icmp_ne (tgt := 88) cx dX5_command_81 (by decide) (fun z77 => absurd z77 (by decide +kernel)) (fun z77 => ?_)
          have z77 := gn_eq (a := 119) (b := 119) (by omega) (by omega) z77
          refine g_iconst cx dX5_command_84 kc_i1 ?_
          refine g_goto (tgt := 89) cx dX5_command_85 (by decide) ?_
          refine g_istore_n (lv' := [(2, .int (nI 1)), (1, .int (nI 119)), (0, .ref h)]) cx dX5_command_89 rfl (by decide) rfl ?_
          refine g_iload_n cx dX5_command_90 rfl ?_
          refine g_if_ne (tgt := 98) cx dX5_command_91 (by decide) (fun z78 => ?_) (fun z78 => absurd z78 (by decide +kernel))
          have z78 := gn_ne0 z78
          refine g_iload_n cx dX5_command_98 rfl ?_
          refine g_if_eq (tgt := 106) cx dX5_command_99 (by decide) (fun z79 => absurd z79 (by decide +kernel)) (fun z79 => ?_)
          have z79 := gn_ne0 z79
          refine g_iconst cx dX5_command_102 kc_i0 ?_
          refine g_goto (tgt := 124) cx dX5_command_103 (by decide) ?_
          refine g_istore_n (lv' := [(3, .int (nI 0)), (2, .int (nI 1)), (1, .int (nI 119)), (0, .ref h)]) cx dX5_command_124 rfl (by decide) rfl ?_
          refine g_iload_n cx dX5_command_125 rfl ?_
          refine g_bipush cx dX5_command_126 kc_b103 ?_
          refine g_icmp_eq (tgt := 135) cx dX5_command_128 (by decide) (fun z80 => absurd z80 (by decide +kernel)) (fun z80 => ?_)
          have z80 := gn_ne (a := 119) (b := 103) z80
          refine g_iconst cx dX5_command_131 kc_i0 ?_
          refine g_goto (tgt := 159) cx dX5_command_132 (by decide) ?_
          refine g_istore (lv' := [(4, .int (nI 0)), (3, .int (nI 0)), (2, .int (nI 1)), (1, .int (nI 119)), (0, .ref h)]) cx dX5_command_159 (by decide) rfl ?_
          refine g_aload_n cx dX5_command_161 rfl ?_
          refine g_get (C := RX5) (T := TX5) (N := 14) (ci := 5) cx hiX5 0 9 (by decide) rfl (by decide +kernel) rfl rfl dX5_command_162 ?_
          refine g_iconst cx dX5_command_165 kc_i3 ?_
          refine g_aload_n cx dX5_command_166 rfl ?_
          refine g_get (C := RX5) (T := TX5) (N := 14) (ci := 5) cx hiX5 0 10 (by decide) rfl (by decide +kernel) rfl rfl dX5_command_167 ?_
          refine g_imul cx dX5_command_170 ?_
          refine g_top (pk_mul 3 tlN) ?_
          refine g_iload_n cx dX5_command_171 rfl ?_
          refine g_iast (ws' := [(h, .inr (5, [.ref an, .ref ap_, .ref asl, .ref ah, .int (nI hN), .ref ax, .int (nI tyN), .int th, .int (nI (at_ + 1)), .ref atd, .int (nI tlN), .ref av, .ref ae, .int go])), (an, .inl (E.2.1 0, 67, .inl nw)), (ap_, .inl (E.2.1 0, 402, .inl ps)), (asl, .inl (E.2.1 0, 134, .inl sl)), (ah, .inl (E.2.1 0, 2, .inl hsl)), (ax, .inl (E.2.1 0, 80, .inl (fun j => nI (T j)))), (atd, .inl (E.2.1 0, 123, .inl (upd td (3 * tlN) (nI 119)))), (av, .inl (E.2.1 0, 64, .inl va)), (ae, .inl (E.2.1 0, 64, .inl er))]) cx 6 rfl rfl (vp_in_nI (by omega) (by omega)) (by rw [nI_clamp (by omega)]; rfl) dX5_command_172 ?_
          refine g_aload_n cx dX5_command_173 rfl ?_
          refine g_get (C := RX5) (T := TX5) (N := 14) (ci := 5) cx hiX5 0 9 (by decide) rfl (by decide +kernel) rfl rfl dX5_command_174 ?_
          refine g_iconst cx dX5_command_177 kc_i3 ?_
          refine g_aload_n cx dX5_command_178 rfl ?_
          refine g_get (C := RX5) (T := TX5) (N := 14) (ci := 5) cx hiX5 0 10 (by decide) rfl (by decide +kernel) rfl rfl dX5_command_179 ?_
          refine g_imul cx dX5_command_182 ?_
          refine g_top (pk_mul 3 tlN) ?_
          refine g_iconst cx dX5_command_183 kc_i1 ?_
          refine g_iadd cx dX5_command_184 ?_
          refine g_top (nI_add (3 * tlN) 1) ?_
          refine g_iload_n cx dX5_command_185 rfl ?_
          refine g_iast (ws' := [(h, .inr (5, [.ref an, .ref ap_, .ref asl, .ref ah, .int (nI hN), .ref ax, .int (nI tyN), .int th, .int (nI (at_ + 1)), .ref atd, .int (nI tlN), .ref av, .ref ae, .int go])), (an, .inl (E.2.1 0, 67, .inl nw)), (ap_, .inl (E.2.1 0, 402, .inl ps)), (asl, .inl (E.2.1 0, 134, .inl sl)), (ah, .inl (E.2.1 0, 2, .inl hsl)), (ax, .inl (E.2.1 0, 80, .inl (fun j => nI (T j)))), (atd, .inl (E.2.1 0, 123, .inl (upd (upd td (3 * tlN) (nI 119)) ((3 * tlN) + 1) (nI 0)))), (av, .inl (E.2.1 0, 64, .inl va)), (ae, .inl (E.2.1 0, 64, .inl er))]) cx 6 rfl rfl (vp_in_nI (by omega) (by omega)) (by rw [nI_clamp (by omega)]; rfl) dX5_command_186 ?_
          refine g_aload_n cx dX5_command_187 rfl ?_
          refine g_get (C := RX5) (T := TX5) (N := 14) (ci := 5) cx hiX5 0 9 (by decide) rfl (by decide +kernel) rfl rfl dX5_command_188 ?_
          refine g_iconst cx dX5_command_191 kc_i3 ?_
          refine g_aload_n cx dX5_command_192 rfl ?_
          refine g_get (C := RX5) (T := TX5) (N := 14) (ci := 5) cx hiX5 0 10 (by decide) rfl (by decide +kernel) rfl rfl dX5_command_193 ?_
          refine g_imul cx dX5_command_196 ?_
          refine g_top (pk_mul 3 tlN) ?_
          refine g_iconst cx dX5_command_197 kc_i2 ?_
          refine g_iadd cx dX5_command_198 ?_
          refine g_top (nI_add (3 * tlN) 2) ?_
          refine g_iload cx dX5_command_199 rfl ?_
          refine g_iast (ws' := [(h, .inr (5, [.ref an, .ref ap_, .ref asl, .ref ah, .int (nI hN), .ref ax, .int (nI tyN), .int th, .int (nI (at_ + 1)), .ref atd, .int (nI tlN), .ref av, .ref ae, .int go])), (an, .inl (E.2.1 0, 67, .inl nw)), (ap_, .inl (E.2.1 0, 402, .inl ps)), (asl, .inl (E.2.1 0, 134, .inl sl)), (ah, .inl (E.2.1 0, 2, .inl hsl)), (ax, .inl (E.2.1 0, 80, .inl (fun j => nI (T j)))), (atd, .inl (E.2.1 0, 123, .inl (upd (upd (upd td (3 * tlN) (nI 119)) ((3 * tlN) + 1) (nI 0)) ((3 * tlN) + 2) (nI 0)))), (av, .inl (E.2.1 0, 64, .inl va)), (ae, .inl (E.2.1 0, 64, .inl er))]) cx 6 rfl rfl (vp_in_nI (by omega) (by omega)) (by rw [nI_clamp (by omega)]; rfl) dX5_command_201 ?_
          refine g_aload_n cx dX5_command_202 rfl ?_
          refine g_dup cx dX5_command_203 rfl ?_
          refine g_get (C := RX5) (T := TX5) (N := 14) (ci := 5) cx hiX5 0 10 (by decide) rfl (by decide +kernel) rfl rfl dX5_command_204 ?_
          refine g_iconst cx dX5_command_207 kc_i1 ?_
          refine g_iadd cx dX5_command_208 ?_
          refine g_top (nI_add tlN 1) ?_
          refine g_put (ws' := [(h, .inr (5, [.ref an, .ref ap_, .ref asl, .ref ah, .int (nI hN), .ref ax, .int (nI tyN), .int th, .int (nI (at_ + 1)), .ref atd, .int (nI (tlN + 1)), .ref av, .ref ae, .int go])), (an, .inl (E.2.1 0, 67, .inl nw)), (ap_, .inl (E.2.1 0, 402, .inl ps)), (asl, .inl (E.2.1 0, 134, .inl sl)), (ah, .inl (E.2.1 0, 2, .inl hsl)), (ax, .inl (E.2.1 0, 80, .inl (fun j => nI (T j)))), (atd, .inl (E.2.1 0, 123, .inl (upd (upd (upd td (3 * tlN) (nI 119)) ((3 * tlN) + 1) (nI 0)) ((3 * tlN) + 2) (nI 0)))), (av, .inl (E.2.1 0, 64, .inl va)), (ae, .inl (E.2.1 0, 64, .inl er))]) (C := RX5) (T := TX5) (N := 14) (ci := 5) cx hiX5 tyX5 tyX5_ok nmX5 0 10 (by decide) rfl (by decide +kernel) rfl rfl rfl rfl rfl (Nat.le_of_ble_eq_true rfl) rfl dX5_command_209 ?_
          refine g_iload_n cx dX5_command_212 rfl ?_
          refine g_if_lt (tgt := 225) cx dX5_command_213 (by decide) (fun z81 => absurd z81 (by decide +kernel)) (fun z81 => ?_)
          have z81 := gn_nlt (a := 0) (b := 0) (by omega) (by omega) z81
          refine g_iload cx dX5_command_216 rfl ?_
          refine g_if_lt (tgt := 225) cx dX5_command_218 (by decide) (fun z82 => absurd z82 (by decide +kernel)) (fun z82 => ?_)
          have z82 := gn_nlt (a := 0) (b := 0) (by omega) (by omega) z82
          refine g_iconst cx dX5_command_221 kc_i1 ?_
          refine g_goto (tgt := 226) cx dX5_command_222 (by decide) ?_
          exact g_zretE cx (by decide +kernel) dX5_command_226 (by rw [hq] <;> rfl) (by rw [hq]; first | exact gB_t | exact gB_f)
        ·
          by_cases h114 : at_ < tyN ∧ T at_ = 114
          ·
            by_cases hd1 : at_ + 1 < tyN ∧ bR (nI (T (at_ + 1))) 48 57 = true
            ·
              have hf1 := nm1_f (most := 9) hd1 hT (by omega)
              have hq : cmd T tyN at_ = (true, (nm1 T tyN 9 (at_ + 1)).2, 114, nI (nm1 T tyN 9 (at_ + 1)).1, nI 0) := by unfold cmd; rw [if_neg h103, if_neg h105, if_neg h116, if_neg h119, if_pos h114, if_pos hd1]
              refine g_aload_n cx dX5_command_0 rfl ?_
              refine g_bipush cx dX5_command_1 kc_b103 ?_
              refine g_callV (ws' := [(h, .inr (5, [.ref an, .ref ap_, .ref asl, .ref ah, .int (nI hN), .ref ax, .int (nI tyN), .int th, .int (nI at_), .ref atd, .int (nI tlN), .ref av, .ref ae, .int go])), (an, .inl (E.2.1 0, 67, .inl nw)), (ap_, .inl (E.2.1 0, 402, .inl ps)), (asl, .inl (E.2.1 0, 134, .inl sl)), (ah, .inl (E.2.1 0, 2, .inl hsl)), (ax, .inl (E.2.1 0, 80, .inl (fun j => nI (T j)))), (atd, .inl (E.2.1 0, 123, .inl td)), (av, .inl (E.2.1 0, 64, .inl va)), (ae, .inl (E.2.1 0, 64, .inl er))]) (As := [.int (nI 103)]) (rest := []) (n := 1) (T := TX5) (N := 14) (ci := 5) cx (c_X5_sees_f l E h an ap_ asl ah ax atd av ae nw ps sl hsl td va er T hN tyN at_ tlN th go 103 h103 (by omega) (by omega) (by omega) hT) gX5_command_X5_sees rfl (by decide +kernel) rfl rfl ⟨Nat.le_of_ble_eq_true rfl, Nat.le_of_ble_eq_true rfl⟩ ⟨Nat.zero_le _, Nat.zero_le _⟩ [0, 1, 2, 3, 4, 5, 6, 7, 8] 0 rfl rfl (by decide) rfl rfl rfl rfl (Nat.le_of_ble_eq_true rfl) dX5_command_3 ?_
              refine g_if_eq (tgt := 14) cx dX5_command_6 (by decide) (fun z83 => ?_) (fun z83 => absurd ((rfl : false = false).symm.trans (gB_ne0 z83)) (by decide))
              have z83 := gB_eq0 z83
              refine g_aload_n cx dX5_command_14 rfl ?_
              refine g_bipush cx dX5_command_15 kc_b105 ?_
              refine g_callV (ws' := [(h, .inr (5, [.ref an, .ref ap_, .ref asl, .ref ah, .int (nI hN), .ref ax, .int (nI tyN), .int th, .int (nI at_), .ref atd, .int (nI tlN), .ref av, .ref ae, .int go])), (an, .inl (E.2.1 0, 67, .inl nw)), (ap_, .inl (E.2.1 0, 402, .inl ps)), (asl, .inl (E.2.1 0, 134, .inl sl)), (ah, .inl (E.2.1 0, 2, .inl hsl)), (ax, .inl (E.2.1 0, 80, .inl (fun j => nI (T j)))), (atd, .inl (E.2.1 0, 123, .inl td)), (av, .inl (E.2.1 0, 64, .inl va)), (ae, .inl (E.2.1 0, 64, .inl er))]) (As := [.int (nI 105)]) (rest := []) (n := 1) (T := TX5) (N := 14) (ci := 5) cx (c_X5_sees_f l E h an ap_ asl ah ax atd av ae nw ps sl hsl td va er T hN tyN at_ tlN th go 105 h105 (by omega) (by omega) (by omega) hT) gX5_command_X5_sees rfl (by decide +kernel) rfl rfl ⟨Nat.le_of_ble_eq_true rfl, Nat.le_of_ble_eq_true rfl⟩ ⟨Nat.zero_le _, Nat.zero_le _⟩ [0, 1, 2, 3, 4, 5, 6, 7, 8] 0 rfl rfl (by decide) rfl rfl rfl rfl (Nat.le_of_ble_eq_true rfl) dX5_command_17 ?_
              refine g_if_eq (tgt := 28) cx dX5_command_20 (by decide) (fun z84 => ?_) (fun z84 => absurd ((rfl : false = false).symm.trans (gB_ne0 z84)) (by decide))
              have z84 := gB_eq0 z84
              refine g_aload_n cx dX5_command_28 rfl ?_
              refine g_bipush cx dX5_command_29 kc_b116 ?_
              refine g_callV (ws' := [(h, .inr (5, [.ref an, .ref ap_, .ref asl, .ref ah, .int (nI hN), .ref ax, .int (nI tyN), .int th, .int (nI at_), .ref atd, .int (nI tlN), .ref av, .ref ae, .int go])), (an, .inl (E.2.1 0, 67, .inl nw)), (ap_, .inl (E.2.1 0, 402, .inl ps)), (asl, .inl (E.2.1 0, 134, .inl sl)), (ah, .inl (E.2.1 0, 2, .inl hsl)), (ax, .inl (E.2.1 0, 80, .inl (fun j => nI (T j)))), (atd, .inl (E.2.1 0, 123, .inl td)), (av, .inl (E.2.1 0, 64, .inl va)), (ae, .inl (E.2.1 0, 64, .inl er))]) (As := [.int (nI 116)]) (rest := []) (n := 1) (T := TX5) (N := 14) (ci := 5) cx (c_X5_sees_f l E h an ap_ asl ah ax atd av ae nw ps sl hsl td va er T hN tyN at_ tlN th go 116 h116 (by omega) (by omega) (by omega) hT) gX5_command_X5_sees rfl (by decide +kernel) rfl rfl ⟨Nat.le_of_ble_eq_true rfl, Nat.le_of_ble_eq_true rfl⟩ ⟨Nat.zero_le _, Nat.zero_le _⟩ [0, 1, 2, 3, 4, 5, 6, 7, 8] 0 rfl rfl (by decide) rfl rfl rfl rfl (Nat.le_of_ble_eq_true rfl) dX5_command_31 ?_
              refine g_if_eq (tgt := 42) cx dX5_command_34 (by decide) (fun z85 => ?_) (fun z85 => absurd ((rfl : false = false).symm.trans (gB_ne0 z85)) (by decide))
              have z85 := gB_eq0 z85
              refine g_aload_n cx dX5_command_42 rfl ?_
              refine g_bipush cx dX5_command_43 kc_b119 ?_
              refine g_callV (ws' := [(h, .inr (5, [.ref an, .ref ap_, .ref asl, .ref ah, .int (nI hN), .ref ax, .int (nI tyN), .int th, .int (nI at_), .ref atd, .int (nI tlN), .ref av, .ref ae, .int go])), (an, .inl (E.2.1 0, 67, .inl nw)), (ap_, .inl (E.2.1 0, 402, .inl ps)), (asl, .inl (E.2.1 0, 134, .inl sl)), (ah, .inl (E.2.1 0, 2, .inl hsl)), (ax, .inl (E.2.1 0, 80, .inl (fun j => nI (T j)))), (atd, .inl (E.2.1 0, 123, .inl td)), (av, .inl (E.2.1 0, 64, .inl va)), (ae, .inl (E.2.1 0, 64, .inl er))]) (As := [.int (nI 119)]) (rest := []) (n := 1) (T := TX5) (N := 14) (ci := 5) cx (c_X5_sees_f l E h an ap_ asl ah ax atd av ae nw ps sl hsl td va er T hN tyN at_ tlN th go 119 h119 (by omega) (by omega) (by omega) hT) gX5_command_X5_sees rfl (by decide +kernel) rfl rfl ⟨Nat.le_of_ble_eq_true rfl, Nat.le_of_ble_eq_true rfl⟩ ⟨Nat.zero_le _, Nat.zero_le _⟩ [0, 1, 2, 3, 4, 5, 6, 7, 8] 0 rfl rfl (by decide) rfl rfl rfl rfl (Nat.le_of_ble_eq_true rfl) dX5_command_45 ?_
              refine g_if_eq (tgt := 56) cx dX5_command_48 (by decide) (fun z86 => ?_) (fun z86 => absurd ((rfl : false = false).symm.trans (gB_ne0 z86)) (by decide))
              have z86 := gB_eq0 z86
              refine g_aload_n cx dX5_command_56 rfl ?_
              refine g_bipush cx dX5_command_57 kc_b114 ?_
              refine g_callV (ws' := [(h, .inr (5, [.ref an, .ref ap_, .ref asl, .ref ah, .int (nI hN), .ref ax, .int (nI tyN), .int th, .int (nI (at_ + 1)), .ref atd, .int (nI tlN), .ref av, .ref ae, .int go])), (an, .inl (E.2.1 0, 67, .inl nw)), (ap_, .inl (E.2.1 0, 402, .inl ps)), (asl, .inl (E.2.1 0, 134, .inl sl)), (ah, .inl (E.2.1 0, 2, .inl hsl)), (ax, .inl (E.2.1 0, 80, .inl (fun j => nI (T j)))), (atd, .inl (E.2.1 0, 123, .inl td)), (av, .inl (E.2.1 0, 64, .inl va)), (ae, .inl (E.2.1 0, 64, .inl er))]) (As := [.int (nI 114)]) (rest := []) (n := 1) (T := TX5) (N := 14) (ci := 5) cx (c_X5_sees_t l E h an ap_ asl ah ax atd av ae nw ps sl hsl td va er T hN tyN at_ tlN th go 114 h114.1 h114.2 (by omega) hT) gX5_command_X5_sees rfl (by decide +kernel) rfl rfl ⟨Nat.le_of_ble_eq_true rfl, Nat.le_of_ble_eq_true rfl⟩ ⟨Nat.zero_le _, Nat.zero_le _⟩ [0, 1, 2, 3, 4, 5, 6, 7, 8] 0 rfl rfl (by decide) rfl rfl rfl rfl (Nat.le_of_ble_eq_true rfl) dX5_command_59 ?_
              refine g_if_eq (tgt := 70) cx dX5_command_62 (by decide) (fun z87 => absurd ((rfl : true = true).symm.trans (gB_eq0 z87)) (by decide)) (fun z87 => ?_)
              have z87 := gB_ne0 z87
              refine g_bipush cx dX5_command_65 kc_b114 ?_
              refine g_goto (tgt := 71) cx dX5_command_67 (by decide) ?_
              refine g_istore_n (lv' := [(1, .int (nI 114)), (0, .ref h)]) cx dX5_command_71 rfl (by decide) rfl ?_
              refine g_iload_n cx dX5_command_72 rfl ?_
              refine g_bipush cx dX5_command_73 kc_b105 ?_
              refine g_icmp_eq (tgt := 84) cx dX5_command_75 (by decide) (fun z88 => absurd z88 (by decide +kernel)) (fun z88 => ?_)
              have z88 := gn_ne (a := 114) (b := 105) z88
              refine g_iload_n cx dX5_command_78 rfl ?_
              refine g_bipush cx dX5_command_79 kc_b119 ?_
              refine g_icmp_ne (tgt := 88) cx dX5_command_81 (by decide) (fun z89 => ?_) (fun z89 => absurd z89 (by decide +kernel))
              have z89 := gn_ne (a := 114) (b := 119) z89
              refine g_iconst cx dX5_command_88 kc_i0 ?_
              refine g_istore_n (lv' := [(2, .int (nI 0)), (1, .int (nI 114)), (0, .ref h)]) cx dX5_command_89 rfl (by decide) rfl ?_
              refine g_iload_n cx dX5_command_90 rfl ?_
              refine g_if_ne (tgt := 98) cx dX5_command_91 (by decide) (fun z90 => ?_) (fun z90 => absurd z90 (by decide +kernel))
              have z90 := gn_ne0 z90
              refine g_iload_n cx dX5_command_98 rfl ?_
              refine g_if_eq (tgt := 106) cx dX5_command_99 (by decide) (fun z91 => ?_) (fun z91 => absurd z91 (by decide +kernel))
              have z91 := gn_eq0 (by omega) z91
              refine g_aload_n cx dX5_command_106 rfl ?_
              refine g_iload_n cx dX5_command_107 rfl ?_
              refine g_bipush cx dX5_command_108 kc_b114 ?_
              refine g_icmp_ne (tgt := 118) cx dX5_command_110 (by decide) (fun z92 => absurd z92 (by decide +kernel)) (fun z92 => ?_)
              have z92 := gn_eq (a := 114) (b := 114) (by omega) (by omega) z92
              refine g_bipush cx dX5_command_113 kc_b9 ?_
              refine g_goto (tgt := 121) cx dX5_command_115 (by decide) ?_
              refine g_callV (ws' := [(h, .inr (5, [.ref an, .ref ap_, .ref asl, .ref ah, .int (nI hN), .ref ax, .int (nI tyN), .int th, .int (nI ((nm1 T tyN 9 (at_ + 1)).2)), .ref atd, .int (nI tlN), .ref av, .ref ae, .int go])), (an, .inl (E.2.1 0, 67, .inl nw)), (ap_, .inl (E.2.1 0, 402, .inl ps)), (asl, .inl (E.2.1 0, 134, .inl sl)), (ah, .inl (E.2.1 0, 2, .inl hsl)), (ax, .inl (E.2.1 0, 80, .inl (fun j => nI (T j)))), (atd, .inl (E.2.1 0, 123, .inl td)), (av, .inl (E.2.1 0, 64, .inl va)), (ae, .inl (E.2.1 0, 64, .inl er))]) (As := [.int (nI 9)]) (rest := []) (n := 1) (T := TX5) (N := 14) (ci := 5) cx (c_X5_number_y l E h an ap_ asl ah ax atd av ae nw ps sl hsl td va er T hN tyN (at_ + 1) tlN th go 9 hd1.1 hd1.2 (by omega) (by omega) (by omega) hT) gX5_command_X5_number rfl (by decide +kernel) rfl rfl ⟨Nat.le_of_ble_eq_true rfl, Nat.le_of_ble_eq_true rfl⟩ ⟨Nat.zero_le _, Nat.zero_le _⟩ [0, 1, 2, 3, 4, 5, 6, 7, 8] 0 rfl rfl (by decide) rfl rfl rfl rfl (Nat.le_of_ble_eq_true rfl) dX5_command_121 ?_
              refine g_istore_n (lv' := [(3, .int (nI ((nm1 T tyN 9 (at_ + 1)).1))), (2, .int (nI 0)), (1, .int (nI 114)), (0, .ref h)]) cx dX5_command_124 rfl (by decide) rfl ?_
              refine g_iload_n cx dX5_command_125 rfl ?_
              refine g_bipush cx dX5_command_126 kc_b103 ?_
              refine g_icmp_eq (tgt := 135) cx dX5_command_128 (by decide) (fun z93 => absurd z93 (by decide +kernel)) (fun z93 => ?_)
              have z93 := gn_ne (a := 114) (b := 103) z93
              refine g_iconst cx dX5_command_131 kc_i0 ?_
              refine g_goto (tgt := 159) cx dX5_command_132 (by decide) ?_
              refine g_istore (lv' := [(4, .int (nI 0)), (3, .int (nI ((nm1 T tyN 9 (at_ + 1)).1))), (2, .int (nI 0)), (1, .int (nI 114)), (0, .ref h)]) cx dX5_command_159 (by decide) rfl ?_
              refine g_aload_n cx dX5_command_161 rfl ?_
              refine g_get (C := RX5) (T := TX5) (N := 14) (ci := 5) cx hiX5 0 9 (by decide) rfl (by decide +kernel) rfl rfl dX5_command_162 ?_
              refine g_iconst cx dX5_command_165 kc_i3 ?_
              refine g_aload_n cx dX5_command_166 rfl ?_
              refine g_get (C := RX5) (T := TX5) (N := 14) (ci := 5) cx hiX5 0 10 (by decide) rfl (by decide +kernel) rfl rfl dX5_command_167 ?_
              refine g_imul cx dX5_command_170 ?_
              refine g_top (pk_mul 3 tlN) ?_
              refine g_iload_n cx dX5_command_171 rfl ?_
              refine g_iast (ws' := [(h, .inr (5, [.ref an, .ref ap_, .ref asl, .ref ah, .int (nI hN), .ref ax, .int (nI tyN), .int th, .int (nI ((nm1 T tyN 9 (at_ + 1)).2)), .ref atd, .int (nI tlN), .ref av, .ref ae, .int go])), (an, .inl (E.2.1 0, 67, .inl nw)), (ap_, .inl (E.2.1 0, 402, .inl ps)), (asl, .inl (E.2.1 0, 134, .inl sl)), (ah, .inl (E.2.1 0, 2, .inl hsl)), (ax, .inl (E.2.1 0, 80, .inl (fun j => nI (T j)))), (atd, .inl (E.2.1 0, 123, .inl (upd td (3 * tlN) (nI 114)))), (av, .inl (E.2.1 0, 64, .inl va)), (ae, .inl (E.2.1 0, 64, .inl er))]) cx 6 rfl rfl (vp_in_nI (by omega) (by omega)) (by rw [nI_clamp (by omega)]; rfl) dX5_command_172 ?_
              refine g_aload_n cx dX5_command_173 rfl ?_
              refine g_get (C := RX5) (T := TX5) (N := 14) (ci := 5) cx hiX5 0 9 (by decide) rfl (by decide +kernel) rfl rfl dX5_command_174 ?_
              refine g_iconst cx dX5_command_177 kc_i3 ?_
              refine g_aload_n cx dX5_command_178 rfl ?_
              refine g_get (C := RX5) (T := TX5) (N := 14) (ci := 5) cx hiX5 0 10 (by decide) rfl (by decide +kernel) rfl rfl dX5_command_179 ?_
              refine g_imul cx dX5_command_182 ?_
              refine g_top (pk_mul 3 tlN) ?_
              refine g_iconst cx dX5_command_183 kc_i1 ?_
              refine g_iadd cx dX5_command_184 ?_
              refine g_top (nI_add (3 * tlN) 1) ?_
              refine g_iload_n cx dX5_command_185 rfl ?_
              refine g_iast (ws' := [(h, .inr (5, [.ref an, .ref ap_, .ref asl, .ref ah, .int (nI hN), .ref ax, .int (nI tyN), .int th, .int (nI ((nm1 T tyN 9 (at_ + 1)).2)), .ref atd, .int (nI tlN), .ref av, .ref ae, .int go])), (an, .inl (E.2.1 0, 67, .inl nw)), (ap_, .inl (E.2.1 0, 402, .inl ps)), (asl, .inl (E.2.1 0, 134, .inl sl)), (ah, .inl (E.2.1 0, 2, .inl hsl)), (ax, .inl (E.2.1 0, 80, .inl (fun j => nI (T j)))), (atd, .inl (E.2.1 0, 123, .inl (upd (upd td (3 * tlN) (nI 114)) ((3 * tlN) + 1) (nI ((nm1 T tyN 9 (at_ + 1)).1))))), (av, .inl (E.2.1 0, 64, .inl va)), (ae, .inl (E.2.1 0, 64, .inl er))]) cx 6 rfl rfl (vp_in_nI (by omega) (by omega)) (by rw [nI_clamp (by omega)]; rfl) dX5_command_186 ?_
              refine g_aload_n cx dX5_command_187 rfl ?_
              refine g_get (C := RX5) (T := TX5) (N := 14) (ci := 5) cx hiX5 0 9 (by decide) rfl (by decide +kernel) rfl rfl dX5_command_188 ?_
              refine g_iconst cx dX5_command_191 kc_i3 ?_
              refine g_aload_n cx dX5_command_192 rfl ?_
              refine g_get (C := RX5) (T := TX5) (N := 14) (ci := 5) cx hiX5 0 10 (by decide) rfl (by decide +kernel) rfl rfl dX5_command_193 ?_
              refine g_imul cx dX5_command_196 ?_
              refine g_top (pk_mul 3 tlN) ?_
              refine g_iconst cx dX5_command_197 kc_i2 ?_
              refine g_iadd cx dX5_command_198 ?_
              refine g_top (nI_add (3 * tlN) 2) ?_
              refine g_iload cx dX5_command_199 rfl ?_
              refine g_iast (ws' := [(h, .inr (5, [.ref an, .ref ap_, .ref asl, .ref ah, .int (nI hN), .ref ax, .int (nI tyN), .int th, .int (nI ((nm1 T tyN 9 (at_ + 1)).2)), .ref atd, .int (nI tlN), .ref av, .ref ae, .int go])), (an, .inl (E.2.1 0, 67, .inl nw)), (ap_, .inl (E.2.1 0, 402, .inl ps)), (asl, .inl (E.2.1 0, 134, .inl sl)), (ah, .inl (E.2.1 0, 2, .inl hsl)), (ax, .inl (E.2.1 0, 80, .inl (fun j => nI (T j)))), (atd, .inl (E.2.1 0, 123, .inl (upd (upd (upd td (3 * tlN) (nI 114)) ((3 * tlN) + 1) (nI ((nm1 T tyN 9 (at_ + 1)).1))) ((3 * tlN) + 2) (nI 0)))), (av, .inl (E.2.1 0, 64, .inl va)), (ae, .inl (E.2.1 0, 64, .inl er))]) cx 6 rfl rfl (vp_in_nI (by omega) (by omega)) (by rw [nI_clamp (by omega)]; rfl) dX5_command_201 ?_
              refine g_aload_n cx dX5_command_202 rfl ?_
              refine g_dup cx dX5_command_203 rfl ?_
              refine g_get (C := RX5) (T := TX5) (N := 14) (ci := 5) cx hiX5 0 10 (by decide) rfl (by decide +kernel) rfl rfl dX5_command_204 ?_
              refine g_iconst cx dX5_command_207 kc_i1 ?_
              refine g_iadd cx dX5_command_208 ?_
              refine g_top (nI_add tlN 1) ?_
              refine g_put (ws' := [(h, .inr (5, [.ref an, .ref ap_, .ref asl, .ref ah, .int (nI hN), .ref ax, .int (nI tyN), .int th, .int (nI ((nm1 T tyN 9 (at_ + 1)).2)), .ref atd, .int (nI (tlN + 1)), .ref av, .ref ae, .int go])), (an, .inl (E.2.1 0, 67, .inl nw)), (ap_, .inl (E.2.1 0, 402, .inl ps)), (asl, .inl (E.2.1 0, 134, .inl sl)), (ah, .inl (E.2.1 0, 2, .inl hsl)), (ax, .inl (E.2.1 0, 80, .inl (fun j => nI (T j)))), (atd, .inl (E.2.1 0, 123, .inl (upd (upd (upd td (3 * tlN) (nI 114)) ((3 * tlN) + 1) (nI ((nm1 T tyN 9 (at_ + 1)).1))) ((3 * tlN) + 2) (nI 0)))), (av, .inl (E.2.1 0, 64, .inl va)), (ae, .inl (E.2.1 0, 64, .inl er))]) (C := RX5) (T := TX5) (N := 14) (ci := 5) cx hiX5 tyX5 tyX5_ok nmX5 0 10 (by decide) rfl (by decide +kernel) rfl rfl rfl rfl rfl (Nat.le_of_ble_eq_true rfl) rfl dX5_command_209 ?_
              refine g_iload_n cx dX5_command_212 rfl ?_
              refine g_if_lt (tgt := 225) cx dX5_command_213 (by decide) (fun z94 => absurd z94 (nI_pos (by omega))) (fun z94 => ?_)
              have z94 := gn_nlt (a := (nm1 T tyN 9 (at_ + 1)).1) (b := 0) (by omega) (by omega) z94
              refine g_iload cx dX5_command_216 rfl ?_
              refine g_if_lt (tgt := 225) cx dX5_command_218 (by decide) (fun z95 => absurd z95 (by decide +kernel)) (fun z95 => ?_)
              have z95 := gn_nlt (a := 0) (b := 0) (by omega) (by omega) z95
              refine g_iconst cx dX5_command_221 kc_i1 ?_
              refine g_goto (tgt := 226) cx dX5_command_222 (by decide) ?_
              exact g_zretE cx (by decide +kernel) dX5_command_226 (by rw [hq] <;> rfl) (by rw [hq]; first | exact gB_t | exact gB_f)
            ·
              have hq : cmd T tyN at_ = (false, at_ + 1, 114, -1, nI 0) := by unfold cmd; rw [if_neg h103, if_neg h105, if_neg h116, if_neg h119, if_pos h114, if_neg hd1]
              refine g_aload_n cx dX5_command_0 rfl ?_
              refine g_bipush cx dX5_command_1 kc_b103 ?_
              refine g_callV (ws' := [(h, .inr (5, [.ref an, .ref ap_, .ref asl, .ref ah, .int (nI hN), .ref ax, .int (nI tyN), .int th, .int (nI at_), .ref atd, .int (nI tlN), .ref av, .ref ae, .int go])), (an, .inl (E.2.1 0, 67, .inl nw)), (ap_, .inl (E.2.1 0, 402, .inl ps)), (asl, .inl (E.2.1 0, 134, .inl sl)), (ah, .inl (E.2.1 0, 2, .inl hsl)), (ax, .inl (E.2.1 0, 80, .inl (fun j => nI (T j)))), (atd, .inl (E.2.1 0, 123, .inl td)), (av, .inl (E.2.1 0, 64, .inl va)), (ae, .inl (E.2.1 0, 64, .inl er))]) (As := [.int (nI 103)]) (rest := []) (n := 1) (T := TX5) (N := 14) (ci := 5) cx (c_X5_sees_f l E h an ap_ asl ah ax atd av ae nw ps sl hsl td va er T hN tyN at_ tlN th go 103 h103 (by omega) (by omega) (by omega) hT) gX5_command_X5_sees rfl (by decide +kernel) rfl rfl ⟨Nat.le_of_ble_eq_true rfl, Nat.le_of_ble_eq_true rfl⟩ ⟨Nat.zero_le _, Nat.zero_le _⟩ [0, 1, 2, 3, 4, 5, 6, 7, 8] 0 rfl rfl (by decide) rfl rfl rfl rfl (Nat.le_of_ble_eq_true rfl) dX5_command_3 ?_
              refine g_if_eq (tgt := 14) cx dX5_command_6 (by decide) (fun z96 => ?_) (fun z96 => absurd ((rfl : false = false).symm.trans (gB_ne0 z96)) (by decide))
              have z96 := gB_eq0 z96
              refine g_aload_n cx dX5_command_14 rfl ?_
              refine g_bipush cx dX5_command_15 kc_b105 ?_
              refine g_callV (ws' := [(h, .inr (5, [.ref an, .ref ap_, .ref asl, .ref ah, .int (nI hN), .ref ax, .int (nI tyN), .int th, .int (nI at_), .ref atd, .int (nI tlN), .ref av, .ref ae, .int go])), (an, .inl (E.2.1 0, 67, .inl nw)), (ap_, .inl (E.2.1 0, 402, .inl ps)), (asl, .inl (E.2.1 0, 134, .inl sl)), (ah, .inl (E.2.1 0, 2, .inl hsl)), (ax, .inl (E.2.1 0, 80, .inl (fun j => nI (T j)))), (atd, .inl (E.2.1 0, 123, .inl td)), (av, .inl (E.2.1 0, 64, .inl va)), (ae, .inl (E.2.1 0, 64, .inl er))]) (As := [.int (nI 105)]) (rest := []) (n := 1) (T := TX5) (N := 14) (ci := 5) cx (c_X5_sees_f l E h an ap_ asl ah ax atd av ae nw ps sl hsl td va er T hN tyN at_ tlN th go 105 h105 (by omega) (by omega) (by omega) hT) gX5_command_X5_sees rfl (by decide +kernel) rfl rfl ⟨Nat.le_of_ble_eq_true rfl, Nat.le_of_ble_eq_true rfl⟩ ⟨Nat.zero_le _, Nat.zero_le _⟩ [0, 1, 2, 3, 4, 5, 6, 7, 8] 0 rfl rfl (by decide) rfl rfl rfl rfl (Nat.le_of_ble_eq_true rfl) dX5_command_17 ?_
              refine g_if_eq (tgt := 28) cx dX5_command_20 (by decide) (fun z97 => ?_) (fun z97 => absurd ((rfl : false = false).symm.trans (gB_ne0 z97)) (by decide))
              have z97 := gB_eq0 z97
              refine g_aload_n cx dX5_command_28 rfl ?_
              refine g_bipush cx dX5_command_29 kc_b116 ?_
              refine g_callV (ws' := [(h, .inr (5, [.ref an, .ref ap_, .ref asl, .ref ah, .int (nI hN), .ref ax, .int (nI tyN), .int th, .int (nI at_), .ref atd, .int (nI tlN), .ref av, .ref ae, .int go])), (an, .inl (E.2.1 0, 67, .inl nw)), (ap_, .inl (E.2.1 0, 402, .inl ps)), (asl, .inl (E.2.1 0, 134, .inl sl)), (ah, .inl (E.2.1 0, 2, .inl hsl)), (ax, .inl (E.2.1 0, 80, .inl (fun j => nI (T j)))), (atd, .inl (E.2.1 0, 123, .inl td)), (av, .inl (E.2.1 0, 64, .inl va)), (ae, .inl (E.2.1 0, 64, .inl er))]) (As := [.int (nI 116)]) (rest := []) (n := 1) (T := TX5) (N := 14) (ci := 5) cx (c_X5_sees_f l E h an ap_ asl ah ax atd av ae nw ps sl hsl td va er T hN tyN at_ tlN th go 116 h116 (by omega) (by omega) (by omega) hT) gX5_command_X5_sees rfl (by decide +kernel) rfl rfl ⟨Nat.le_of_ble_eq_true rfl, Nat.le_of_ble_eq_true rfl⟩ ⟨Nat.zero_le _, Nat.zero_le _⟩ [0, 1, 2, 3, 4, 5, 6, 7, 8] 0 rfl rfl (by decide) rfl rfl rfl rfl (Nat.le_of_ble_eq_true rfl) dX5_command_31 ?_
              refine g_if_eq (tgt := 42) cx dX5_command_34 (by decide) (fun z98 => ?_) (fun z98 => absurd ((rfl : false = false).symm.trans (gB_ne0 z98)) (by decide))
              have z98 := gB_eq0 z98
              refine g_aload_n cx dX5_command_42 rfl ?_
              refine g_bipush cx dX5_command_43 kc_b119 ?_
              refine g_callV (ws' := [(h, .inr (5, [.ref an, .ref ap_, .ref asl, .ref ah, .int (nI hN), .ref ax, .int (nI tyN), .int th, .int (nI at_), .ref atd, .int (nI tlN), .ref av, .ref ae, .int go])), (an, .inl (E.2.1 0, 67, .inl nw)), (ap_, .inl (E.2.1 0, 402, .inl ps)), (asl, .inl (E.2.1 0, 134, .inl sl)), (ah, .inl (E.2.1 0, 2, .inl hsl)), (ax, .inl (E.2.1 0, 80, .inl (fun j => nI (T j)))), (atd, .inl (E.2.1 0, 123, .inl td)), (av, .inl (E.2.1 0, 64, .inl va)), (ae, .inl (E.2.1 0, 64, .inl er))]) (As := [.int (nI 119)]) (rest := []) (n := 1) (T := TX5) (N := 14) (ci := 5) cx (c_X5_sees_f l E h an ap_ asl ah ax atd av ae nw ps sl hsl td va er T hN tyN at_ tlN th go 119 h119 (by omega) (by omega) (by omega) hT) gX5_command_X5_sees rfl (by decide +kernel) rfl rfl ⟨Nat.le_of_ble_eq_true rfl, Nat.le_of_ble_eq_true rfl⟩ ⟨Nat.zero_le _, Nat.zero_le _⟩ [0, 1, 2, 3, 4, 5, 6, 7, 8] 0 rfl rfl (by decide) rfl rfl rfl rfl (Nat.le_of_ble_eq_true rfl) dX5_command_45 ?_
              refine g_if_eq (tgt := 56) cx dX5_command_48 (by decide) (fun z99 => ?_) (fun z99 => absurd ((rfl : false = false).symm.trans (gB_ne0 z99)) (by decide))
              have z99 := gB_eq0 z99
              refine g_aload_n cx dX5_command_56 rfl ?_
              refine g_bipush cx dX5_command_57 kc_b114 ?_
              refine g_callV (ws' := [(h, .inr (5, [.ref an, .ref ap_, .ref asl, .ref ah, .int (nI hN), .ref ax, .int (nI tyN), .int th, .int (nI (at_ + 1)), .ref atd, .int (nI tlN), .ref av, .ref ae, .int go])), (an, .inl (E.2.1 0, 67, .inl nw)), (ap_, .inl (E.2.1 0, 402, .inl ps)), (asl, .inl (E.2.1 0, 134, .inl sl)), (ah, .inl (E.2.1 0, 2, .inl hsl)), (ax, .inl (E.2.1 0, 80, .inl (fun j => nI (T j)))), (atd, .inl (E.2.1 0, 123, .inl td)), (av, .inl (E.2.1 0, 64, .inl va)), (ae, .inl (E.2.1 0, 64, .inl er))]) (As := [.int (nI 114)]) (rest := []) (n := 1) (T := TX5) (N := 14) (ci := 5) cx (c_X5_sees_t l E h an ap_ asl ah ax atd av ae nw ps sl hsl td va er T hN tyN at_ tlN th go 114 h114.1 h114.2 (by omega) hT) gX5_command_X5_sees rfl (by decide +kernel) rfl rfl ⟨Nat.le_of_ble_eq_true rfl, Nat.le_of_ble_eq_true rfl⟩ ⟨Nat.zero_le _, Nat.zero_le _⟩ [0, 1, 2, 3, 4, 5, 6, 7, 8] 0 rfl rfl (by decide) rfl rfl rfl rfl (Nat.le_of_ble_eq_true rfl) dX5_command_59 ?_
              refine g_if_eq (tgt := 70) cx dX5_command_62 (by decide) (fun z100 => absurd ((rfl : true = true).symm.trans (gB_eq0 z100)) (by decide)) (fun z100 => ?_)
              have z100 := gB_ne0 z100
              refine g_bipush cx dX5_command_65 kc_b114 ?_
              refine g_goto (tgt := 71) cx dX5_command_67 (by decide) ?_
              refine g_istore_n (lv' := [(1, .int (nI 114)), (0, .ref h)]) cx dX5_command_71 rfl (by decide) rfl ?_
              refine g_iload_n cx dX5_command_72 rfl ?_
              refine g_bipush cx dX5_command_73 kc_b105 ?_
              refine g_icmp_eq (tgt := 84) cx dX5_command_75 (by decide) (fun z101 => absurd z101 (by decide +kernel)) (fun z101 => ?_)
              have z101 := gn_ne (a := 114) (b := 105) z101
              refine g_iload_n cx dX5_command_78 rfl ?_
              refine g_bipush cx dX5_command_79 kc_b119 ?_
              refine g_icmp_ne (tgt := 88) cx dX5_command_81 (by decide) (fun z102 => ?_) (fun z102 => absurd z102 (by decide +kernel))
              have z102 := gn_ne (a := 114) (b := 119) z102
              refine g_iconst cx dX5_command_88 kc_i0 ?_
              refine g_istore_n (lv' := [(2, .int (nI 0)), (1, .int (nI 114)), (0, .ref h)]) cx dX5_command_89 rfl (by decide) rfl ?_
              refine g_iload_n cx dX5_command_90 rfl ?_
              refine g_if_ne (tgt := 98) cx dX5_command_91 (by decide) (fun z103 => ?_) (fun z103 => absurd z103 (by decide +kernel))
              have z103 := gn_ne0 z103
              refine g_iload_n cx dX5_command_98 rfl ?_
              refine g_if_eq (tgt := 106) cx dX5_command_99 (by decide) (fun z104 => ?_) (fun z104 => absurd z104 (by decide +kernel))
              have z104 := gn_eq0 (by omega) z104
              refine g_aload_n cx dX5_command_106 rfl ?_
              refine g_iload_n cx dX5_command_107 rfl ?_
              refine g_bipush cx dX5_command_108 kc_b114 ?_
              refine g_icmp_ne (tgt := 118) cx dX5_command_110 (by decide) (fun z105 => absurd z105 (by decide +kernel)) (fun z105 => ?_)
              have z105 := gn_eq (a := 114) (b := 114) (by omega) (by omega) z105
              refine g_bipush cx dX5_command_113 kc_b9 ?_
              refine g_goto (tgt := 121) cx dX5_command_115 (by decide) ?_
              refine g_callV (ws' := [(h, .inr (5, [.ref an, .ref ap_, .ref asl, .ref ah, .int (nI hN), .ref ax, .int (nI tyN), .int th, .int (nI (at_ + 1)), .ref atd, .int (nI tlN), .ref av, .ref ae, .int go])), (an, .inl (E.2.1 0, 67, .inl nw)), (ap_, .inl (E.2.1 0, 402, .inl ps)), (asl, .inl (E.2.1 0, 134, .inl sl)), (ah, .inl (E.2.1 0, 2, .inl hsl)), (ax, .inl (E.2.1 0, 80, .inl (fun j => nI (T j)))), (atd, .inl (E.2.1 0, 123, .inl td)), (av, .inl (E.2.1 0, 64, .inl va)), (ae, .inl (E.2.1 0, 64, .inl er))]) (As := [.int (nI 9)]) (rest := []) (n := 1) (T := TX5) (N := 14) (ci := 5) cx (c_X5_number_n l E h an ap_ asl ah ax atd av ae nw ps sl hsl td va er T hN tyN (at_ + 1) tlN th go 9 hd1 (by omega) (by omega) hT) gX5_command_X5_number rfl (by decide +kernel) rfl rfl ⟨Nat.le_of_ble_eq_true rfl, Nat.le_of_ble_eq_true rfl⟩ ⟨Nat.zero_le _, Nat.zero_le _⟩ [0, 1, 2, 3, 4, 5, 6, 7, 8] 0 rfl rfl (by decide) rfl rfl rfl rfl (Nat.le_of_ble_eq_true rfl) dX5_command_121 ?_
              refine g_istore_n (lv' := [(3, .int (-1)), (2, .int (nI 0)), (1, .int (nI 114)), (0, .ref h)]) cx dX5_command_124 rfl (by decide) rfl ?_
              refine g_iload_n cx dX5_command_125 rfl ?_
              refine g_bipush cx dX5_command_126 kc_b103 ?_
              refine g_icmp_eq (tgt := 135) cx dX5_command_128 (by decide) (fun z106 => absurd z106 (by decide +kernel)) (fun z106 => ?_)
              have z106 := gn_ne (a := 114) (b := 103) z106
              refine g_iconst cx dX5_command_131 kc_i0 ?_
              refine g_goto (tgt := 159) cx dX5_command_132 (by decide) ?_
              refine g_istore (lv' := [(4, .int (nI 0)), (3, .int (-1)), (2, .int (nI 0)), (1, .int (nI 114)), (0, .ref h)]) cx dX5_command_159 (by decide) rfl ?_
              refine g_aload_n cx dX5_command_161 rfl ?_
              refine g_get (C := RX5) (T := TX5) (N := 14) (ci := 5) cx hiX5 0 9 (by decide) rfl (by decide +kernel) rfl rfl dX5_command_162 ?_
              refine g_iconst cx dX5_command_165 kc_i3 ?_
              refine g_aload_n cx dX5_command_166 rfl ?_
              refine g_get (C := RX5) (T := TX5) (N := 14) (ci := 5) cx hiX5 0 10 (by decide) rfl (by decide +kernel) rfl rfl dX5_command_167 ?_
              refine g_imul cx dX5_command_170 ?_
              refine g_top (pk_mul 3 tlN) ?_
              refine g_iload_n cx dX5_command_171 rfl ?_
              refine g_iast (ws' := [(h, .inr (5, [.ref an, .ref ap_, .ref asl, .ref ah, .int (nI hN), .ref ax, .int (nI tyN), .int th, .int (nI (at_ + 1)), .ref atd, .int (nI tlN), .ref av, .ref ae, .int go])), (an, .inl (E.2.1 0, 67, .inl nw)), (ap_, .inl (E.2.1 0, 402, .inl ps)), (asl, .inl (E.2.1 0, 134, .inl sl)), (ah, .inl (E.2.1 0, 2, .inl hsl)), (ax, .inl (E.2.1 0, 80, .inl (fun j => nI (T j)))), (atd, .inl (E.2.1 0, 123, .inl (upd td (3 * tlN) (nI 114)))), (av, .inl (E.2.1 0, 64, .inl va)), (ae, .inl (E.2.1 0, 64, .inl er))]) cx 6 rfl rfl (vp_in_nI (by omega) (by omega)) (by rw [nI_clamp (by omega)]; rfl) dX5_command_172 ?_
              refine g_aload_n cx dX5_command_173 rfl ?_
              refine g_get (C := RX5) (T := TX5) (N := 14) (ci := 5) cx hiX5 0 9 (by decide) rfl (by decide +kernel) rfl rfl dX5_command_174 ?_
              refine g_iconst cx dX5_command_177 kc_i3 ?_
              refine g_aload_n cx dX5_command_178 rfl ?_
              refine g_get (C := RX5) (T := TX5) (N := 14) (ci := 5) cx hiX5 0 10 (by decide) rfl (by decide +kernel) rfl rfl dX5_command_179 ?_
              refine g_imul cx dX5_command_182 ?_
              refine g_top (pk_mul 3 tlN) ?_
              refine g_iconst cx dX5_command_183 kc_i1 ?_
              refine g_iadd cx dX5_command_184 ?_
              refine g_top (nI_add (3 * tlN) 1) ?_
              refine g_iload_n cx dX5_command_185 rfl ?_
              refine g_iast (ws' := [(h, .inr (5, [.ref an, .ref ap_, .ref asl, .ref ah, .int (nI hN), .ref ax, .int (nI tyN), .int th, .int (nI (at_ + 1)), .ref atd, .int (nI tlN), .ref av, .ref ae, .int go])), (an, .inl (E.2.1 0, 67, .inl nw)), (ap_, .inl (E.2.1 0, 402, .inl ps)), (asl, .inl (E.2.1 0, 134, .inl sl)), (ah, .inl (E.2.1 0, 2, .inl hsl)), (ax, .inl (E.2.1 0, 80, .inl (fun j => nI (T j)))), (atd, .inl (E.2.1 0, 123, .inl (upd (upd td (3 * tlN) (nI 114)) ((3 * tlN) + 1) (-1)))), (av, .inl (E.2.1 0, 64, .inl va)), (ae, .inl (E.2.1 0, 64, .inl er))]) cx 6 rfl rfl (vp_in_nI (by omega) (by omega)) (by rw [nI_clamp (by omega)]; rfl) dX5_command_186 ?_
              refine g_aload_n cx dX5_command_187 rfl ?_
              refine g_get (C := RX5) (T := TX5) (N := 14) (ci := 5) cx hiX5 0 9 (by decide) rfl (by decide +kernel) rfl rfl dX5_command_188 ?_
              refine g_iconst cx dX5_command_191 kc_i3 ?_
              refine g_aload_n cx dX5_command_192 rfl ?_
              refine g_get (C := RX5) (T := TX5) (N := 14) (ci := 5) cx hiX5 0 10 (by decide) rfl (by decide +kernel) rfl rfl dX5_command_193 ?_
              refine g_imul cx dX5_command_196 ?_
              refine g_top (pk_mul 3 tlN) ?_
              refine g_iconst cx dX5_command_197 kc_i2 ?_
              refine g_iadd cx dX5_command_198 ?_
              refine g_top (nI_add (3 * tlN) 2) ?_
              refine g_iload cx dX5_command_199 rfl ?_
              refine g_iast (ws' := [(h, .inr (5, [.ref an, .ref ap_, .ref asl, .ref ah, .int (nI hN), .ref ax, .int (nI tyN), .int th, .int (nI (at_ + 1)), .ref atd, .int (nI tlN), .ref av, .ref ae, .int go])), (an, .inl (E.2.1 0, 67, .inl nw)), (ap_, .inl (E.2.1 0, 402, .inl ps)), (asl, .inl (E.2.1 0, 134, .inl sl)), (ah, .inl (E.2.1 0, 2, .inl hsl)), (ax, .inl (E.2.1 0, 80, .inl (fun j => nI (T j)))), (atd, .inl (E.2.1 0, 123, .inl (upd (upd (upd td (3 * tlN) (nI 114)) ((3 * tlN) + 1) (-1)) ((3 * tlN) + 2) (nI 0)))), (av, .inl (E.2.1 0, 64, .inl va)), (ae, .inl (E.2.1 0, 64, .inl er))]) cx 6 rfl rfl (vp_in_nI (by omega) (by omega)) (by rw [nI_clamp (by omega)]; rfl) dX5_command_201 ?_
              refine g_aload_n cx dX5_command_202 rfl ?_
              refine g_dup cx dX5_command_203 rfl ?_
              refine g_get (C := RX5) (T := TX5) (N := 14) (ci := 5) cx hiX5 0 10 (by decide) rfl (by decide +kernel) rfl rfl dX5_command_204 ?_
              refine g_iconst cx dX5_command_207 kc_i1 ?_
              refine g_iadd cx dX5_command_208 ?_
              refine g_top (nI_add tlN 1) ?_
              refine g_put (ws' := [(h, .inr (5, [.ref an, .ref ap_, .ref asl, .ref ah, .int (nI hN), .ref ax, .int (nI tyN), .int th, .int (nI (at_ + 1)), .ref atd, .int (nI (tlN + 1)), .ref av, .ref ae, .int go])), (an, .inl (E.2.1 0, 67, .inl nw)), (ap_, .inl (E.2.1 0, 402, .inl ps)), (asl, .inl (E.2.1 0, 134, .inl sl)), (ah, .inl (E.2.1 0, 2, .inl hsl)), (ax, .inl (E.2.1 0, 80, .inl (fun j => nI (T j)))), (atd, .inl (E.2.1 0, 123, .inl (upd (upd (upd td (3 * tlN) (nI 114)) ((3 * tlN) + 1) (-1)) ((3 * tlN) + 2) (nI 0)))), (av, .inl (E.2.1 0, 64, .inl va)), (ae, .inl (E.2.1 0, 64, .inl er))]) (C := RX5) (T := TX5) (N := 14) (ci := 5) cx hiX5 tyX5 tyX5_ok nmX5 0 10 (by decide) rfl (by decide +kernel) rfl rfl rfl rfl rfl (Nat.le_of_ble_eq_true rfl) rfl dX5_command_209 ?_
              refine g_iload_n cx dX5_command_212 rfl ?_
              refine g_if_lt (tgt := 225) cx dX5_command_213 (by decide) (fun z107 => ?_) (fun z107 => absurd z107 (by decide +kernel))
              have z107 := gi0_lt z107
              refine g_iconst cx dX5_command_225 kc_i0 ?_
              exact g_zretE cx (by decide +kernel) dX5_command_226 (by rw [hq] <;> rfl) (by rw [hq]; first | exact gB_t | exact gB_f)
          ·
            have hq : cmd T tyN at_ = (false, at_, 0, -1, nI 0) := by unfold cmd; rw [if_neg h103, if_neg h105, if_neg h116, if_neg h119, if_neg h114]
            refine g_aload_n cx dX5_command_0 rfl ?_
            refine g_bipush cx dX5_command_1 kc_b103 ?_
            refine g_callV (ws' := [(h, .inr (5, [.ref an, .ref ap_, .ref asl, .ref ah, .int (nI hN), .ref ax, .int (nI tyN), .int th, .int (nI at_), .ref atd, .int (nI tlN), .ref av, .ref ae, .int go])), (an, .inl (E.2.1 0, 67, .inl nw)), (ap_, .inl (E.2.1 0, 402, .inl ps)), (asl, .inl (E.2.1 0, 134, .inl sl)), (ah, .inl (E.2.1 0, 2, .inl hsl)), (ax, .inl (E.2.1 0, 80, .inl (fun j => nI (T j)))), (atd, .inl (E.2.1 0, 123, .inl td)), (av, .inl (E.2.1 0, 64, .inl va)), (ae, .inl (E.2.1 0, 64, .inl er))]) (As := [.int (nI 103)]) (rest := []) (n := 1) (T := TX5) (N := 14) (ci := 5) cx (c_X5_sees_f l E h an ap_ asl ah ax atd av ae nw ps sl hsl td va er T hN tyN at_ tlN th go 103 h103 (by omega) (by omega) (by omega) hT) gX5_command_X5_sees rfl (by decide +kernel) rfl rfl ⟨Nat.le_of_ble_eq_true rfl, Nat.le_of_ble_eq_true rfl⟩ ⟨Nat.zero_le _, Nat.zero_le _⟩ [0, 1, 2, 3, 4, 5, 6, 7, 8] 0 rfl rfl (by decide) rfl rfl rfl rfl (Nat.le_of_ble_eq_true rfl) dX5_command_3 ?_
            refine g_if_eq (tgt := 14) cx dX5_command_6 (by decide) (fun z108 => ?_) (fun z108 => absurd ((rfl : false = false).symm.trans (gB_ne0 z108)) (by decide))
            have z108 := gB_eq0 z108
            refine g_aload_n cx dX5_command_14 rfl ?_
            refine g_bipush cx dX5_command_15 kc_b105 ?_
            refine g_callV (ws' := [(h, .inr (5, [.ref an, .ref ap_, .ref asl, .ref ah, .int (nI hN), .ref ax, .int (nI tyN), .int th, .int (nI at_), .ref atd, .int (nI tlN), .ref av, .ref ae, .int go])), (an, .inl (E.2.1 0, 67, .inl nw)), (ap_, .inl (E.2.1 0, 402, .inl ps)), (asl, .inl (E.2.1 0, 134, .inl sl)), (ah, .inl (E.2.1 0, 2, .inl hsl)), (ax, .inl (E.2.1 0, 80, .inl (fun j => nI (T j)))), (atd, .inl (E.2.1 0, 123, .inl td)), (av, .inl (E.2.1 0, 64, .inl va)), (ae, .inl (E.2.1 0, 64, .inl er))]) (As := [.int (nI 105)]) (rest := []) (n := 1) (T := TX5) (N := 14) (ci := 5) cx (c_X5_sees_f l E h an ap_ asl ah ax atd av ae nw ps sl hsl td va er T hN tyN at_ tlN th go 105 h105 (by omega) (by omega) (by omega) hT) gX5_command_X5_sees rfl (by decide +kernel) rfl rfl ⟨Nat.le_of_ble_eq_true rfl, Nat.le_of_ble_eq_true rfl⟩ ⟨Nat.zero_le _, Nat.zero_le _⟩ [0, 1, 2, 3, 4, 5, 6, 7, 8] 0 rfl rfl (by decide) rfl rfl rfl rfl (Nat.le_of_ble_eq_true rfl) dX5_command_17 ?_
            refine g_if_eq (tgt := 28) cx dX5_command_20 (by decide) (fun z109 => ?_) (fun z109 => absurd ((rfl : false = false).symm.trans (gB_ne0 z109)) (by decide))
            have z109 := gB_eq0 z109
            refine g_aload_n cx dX5_command_28 rfl ?_
            refine g_bipush cx dX5_command_29 kc_b116 ?_
            refine g_callV (ws' := [(h, .inr (5, [.ref an, .ref ap_, .ref asl, .ref ah, .int (nI hN), .ref ax, .int (nI tyN), .int th, .int (nI at_), .ref atd, .int (nI tlN), .ref av, .ref ae, .int go])), (an, .inl (E.2.1 0, 67, .inl nw)), (ap_, .inl (E.2.1 0, 402, .inl ps)), (asl, .inl (E.2.1 0, 134, .inl sl)), (ah, .inl (E.2.1 0, 2, .inl hsl)), (ax, .inl (E.2.1 0, 80, .inl (fun j => nI (T j)))), (atd, .inl (E.2.1 0, 123, .inl td)), (av, .inl (E.2.1 0, 64, .inl va)), (ae, .inl (E.2.1 0, 64, .inl er))]) (As := [.int (nI 116)]) (rest := []) (n := 1) (T := TX5) (N := 14) (ci := 5) cx (c_X5_sees_f l E h an ap_ asl ah ax atd av ae nw ps sl hsl td va er T hN tyN at_ tlN th go 116 h116 (by omega) (by omega) (by omega) hT) gX5_command_X5_sees rfl (by decide +kernel) rfl rfl ⟨Nat.le_of_ble_eq_true rfl, Nat.le_of_ble_eq_true rfl⟩ ⟨Nat.zero_le _, Nat.zero_le _⟩ [0, 1, 2, 3, 4, 5, 6, 7, 8] 0 rfl rfl (by decide) rfl rfl rfl rfl (Nat.le_of_ble_eq_true rfl) dX5_command_31 ?_
            refine g_if_eq (tgt := 42) cx dX5_command_34 (by decide) (fun z110 => ?_) (fun z110 => absurd ((rfl : false = false).symm.trans (gB_ne0 z110)) (by decide))
            have z110 := gB_eq0 z110
            refine g_aload_n cx dX5_command_42 rfl ?_
            refine g_bipush cx dX5_command_43 kc_b119 ?_
            refine g_callV (ws' := [(h, .inr (5, [.ref an, .ref ap_, .ref asl, .ref ah, .int (nI hN), .ref ax, .int (nI tyN), .int th, .int (nI at_), .ref atd, .int (nI tlN), .ref av, .ref ae, .int go])), (an, .inl (E.2.1 0, 67, .inl nw)), (ap_, .inl (E.2.1 0, 402, .inl ps)), (asl, .inl (E.2.1 0, 134, .inl sl)), (ah, .inl (E.2.1 0, 2, .inl hsl)), (ax, .inl (E.2.1 0, 80, .inl (fun j => nI (T j)))), (atd, .inl (E.2.1 0, 123, .inl td)), (av, .inl (E.2.1 0, 64, .inl va)), (ae, .inl (E.2.1 0, 64, .inl er))]) (As := [.int (nI 119)]) (rest := []) (n := 1) (T := TX5) (N := 14) (ci := 5) cx (c_X5_sees_f l E h an ap_ asl ah ax atd av ae nw ps sl hsl td va er T hN tyN at_ tlN th go 119 h119 (by omega) (by omega) (by omega) hT) gX5_command_X5_sees rfl (by decide +kernel) rfl rfl ⟨Nat.le_of_ble_eq_true rfl, Nat.le_of_ble_eq_true rfl⟩ ⟨Nat.zero_le _, Nat.zero_le _⟩ [0, 1, 2, 3, 4, 5, 6, 7, 8] 0 rfl rfl (by decide) rfl rfl rfl rfl (Nat.le_of_ble_eq_true rfl) dX5_command_45 ?_
            refine g_if_eq (tgt := 56) cx dX5_command_48 (by decide) (fun z111 => ?_) (fun z111 => absurd ((rfl : false = false).symm.trans (gB_ne0 z111)) (by decide))
            have z111 := gB_eq0 z111
            refine g_aload_n cx dX5_command_56 rfl ?_
            refine g_bipush cx dX5_command_57 kc_b114 ?_
            refine g_callV (ws' := [(h, .inr (5, [.ref an, .ref ap_, .ref asl, .ref ah, .int (nI hN), .ref ax, .int (nI tyN), .int th, .int (nI at_), .ref atd, .int (nI tlN), .ref av, .ref ae, .int go])), (an, .inl (E.2.1 0, 67, .inl nw)), (ap_, .inl (E.2.1 0, 402, .inl ps)), (asl, .inl (E.2.1 0, 134, .inl sl)), (ah, .inl (E.2.1 0, 2, .inl hsl)), (ax, .inl (E.2.1 0, 80, .inl (fun j => nI (T j)))), (atd, .inl (E.2.1 0, 123, .inl td)), (av, .inl (E.2.1 0, 64, .inl va)), (ae, .inl (E.2.1 0, 64, .inl er))]) (As := [.int (nI 114)]) (rest := []) (n := 1) (T := TX5) (N := 14) (ci := 5) cx (c_X5_sees_f l E h an ap_ asl ah ax atd av ae nw ps sl hsl td va er T hN tyN at_ tlN th go 114 h114 (by omega) (by omega) (by omega) hT) gX5_command_X5_sees rfl (by decide +kernel) rfl rfl ⟨Nat.le_of_ble_eq_true rfl, Nat.le_of_ble_eq_true rfl⟩ ⟨Nat.zero_le _, Nat.zero_le _⟩ [0, 1, 2, 3, 4, 5, 6, 7, 8] 0 rfl rfl (by decide) rfl rfl rfl rfl (Nat.le_of_ble_eq_true rfl) dX5_command_59 ?_
            refine g_if_eq (tgt := 70) cx dX5_command_62 (by decide) (fun z112 => ?_) (fun z112 => absurd ((rfl : false = false).symm.trans (gB_ne0 z112)) (by decide))
            have z112 := gB_eq0 z112
            refine g_iconst cx dX5_command_70 kc_i0 ?_
            refine g_istore_n (lv' := [(1, .int (nI 0)), (0, .ref h)]) cx dX5_command_71 rfl (by decide) rfl ?_
            refine g_iload_n cx dX5_command_72 rfl ?_
            refine g_bipush cx dX5_command_73 kc_b105 ?_
            refine g_icmp_eq (tgt := 84) cx dX5_command_75 (by decide) (fun z113 => absurd z113 (by decide +kernel)) (fun z113 => ?_)
            have z113 := gn_ne (a := 0) (b := 105) z113
            refine g_iload_n cx dX5_command_78 rfl ?_
            refine g_bipush cx dX5_command_79 kc_b119 ?_
            refine g_icmp_ne (tgt := 88) cx dX5_command_81 (by decide) (fun z114 => ?_) (fun z114 => absurd z114 (by decide +kernel))
            have z114 := gn_ne (a := 0) (b := 119) z114
            refine g_iconst cx dX5_command_88 kc_i0 ?_
            refine g_istore_n (lv' := [(2, .int (nI 0)), (1, .int (nI 0)), (0, .ref h)]) cx dX5_command_89 rfl (by decide) rfl ?_
            refine g_iload_n cx dX5_command_90 rfl ?_
            refine g_if_ne (tgt := 98) cx dX5_command_91 (by decide) (fun z115 => absurd z115 (by decide +kernel)) (fun z115 => ?_)
            have z115 := gn_eq0 (by omega) z115
            refine g_iconst cx dX5_command_94 kc_im1 ?_
            refine g_goto (tgt := 124) cx dX5_command_95 (by decide) ?_
            refine g_istore_n (lv' := [(3, .int (-1)), (2, .int (nI 0)), (1, .int (nI 0)), (0, .ref h)]) cx dX5_command_124 rfl (by decide) rfl ?_
            refine g_iload_n cx dX5_command_125 rfl ?_
            refine g_bipush cx dX5_command_126 kc_b103 ?_
            refine g_icmp_eq (tgt := 135) cx dX5_command_128 (by decide) (fun z116 => absurd z116 (by decide +kernel)) (fun z116 => ?_)
            have z116 := gn_ne (a := 0) (b := 103) z116
            refine g_iconst cx dX5_command_131 kc_i0 ?_
            refine g_goto (tgt := 159) cx dX5_command_132 (by decide) ?_
            refine g_istore (lv' := [(4, .int (nI 0)), (3, .int (-1)), (2, .int (nI 0)), (1, .int (nI 0)), (0, .ref h)]) cx dX5_command_159 (by decide) rfl ?_
            refine g_aload_n cx dX5_command_161 rfl ?_
            refine g_get (C := RX5) (T := TX5) (N := 14) (ci := 5) cx hiX5 0 9 (by decide) rfl (by decide +kernel) rfl rfl dX5_command_162 ?_
            refine g_iconst cx dX5_command_165 kc_i3 ?_
            refine g_aload_n cx dX5_command_166 rfl ?_
            refine g_get (C := RX5) (T := TX5) (N := 14) (ci := 5) cx hiX5 0 10 (by decide) rfl (by decide +kernel) rfl rfl dX5_command_167 ?_
            refine g_imul cx dX5_command_170 ?_
            refine g_top (pk_mul 3 tlN) ?_
            refine g_iload_n cx dX5_command_171 rfl ?_
            refine g_iast (ws' := [(h, .inr (5, [.ref an, .ref ap_, .ref asl, .ref ah, .int (nI hN), .ref ax, .int (nI tyN), .int th, .int (nI at_), .ref atd, .int (nI tlN), .ref av, .ref ae, .int go])), (an, .inl (E.2.1 0, 67, .inl nw)), (ap_, .inl (E.2.1 0, 402, .inl ps)), (asl, .inl (E.2.1 0, 134, .inl sl)), (ah, .inl (E.2.1 0, 2, .inl hsl)), (ax, .inl (E.2.1 0, 80, .inl (fun j => nI (T j)))), (atd, .inl (E.2.1 0, 123, .inl (upd td (3 * tlN) (nI 0)))), (av, .inl (E.2.1 0, 64, .inl va)), (ae, .inl (E.2.1 0, 64, .inl er))]) cx 6 rfl rfl (vp_in_nI (by omega) (by omega)) (by rw [nI_clamp (by omega)]; rfl) dX5_command_172 ?_
            refine g_aload_n cx dX5_command_173 rfl ?_
            refine g_get (C := RX5) (T := TX5) (N := 14) (ci := 5) cx hiX5 0 9 (by decide) rfl (by decide +kernel) rfl rfl dX5_command_174 ?_
            refine g_iconst cx dX5_command_177 kc_i3 ?_
            refine g_aload_n cx dX5_command_178 rfl ?_
            refine g_get (C := RX5) (T := TX5) (N := 14) (ci := 5) cx hiX5 0 10 (by decide) rfl (by decide +kernel) rfl rfl dX5_command_179 ?_
            refine g_imul cx dX5_command_182 ?_
            refine g_top (pk_mul 3 tlN) ?_
            refine g_iconst cx dX5_command_183 kc_i1 ?_
            refine g_iadd cx dX5_command_184 ?_
            refine g_top (nI_add (3 * tlN) 1) ?_
            refine g_iload_n cx dX5_command_185 rfl ?_
            refine g_iast (ws' := [(h, .inr (5, [.ref an, .ref ap_, .ref asl, .ref ah, .int (nI hN), .ref ax, .int (nI tyN), .int th, .int (nI at_), .ref atd, .int (nI tlN), .ref av, .ref ae, .int go])), (an, .inl (E.2.1 0, 67, .inl nw)), (ap_, .inl (E.2.1 0, 402, .inl ps)), (asl, .inl (E.2.1 0, 134, .inl sl)), (ah, .inl (E.2.1 0, 2, .inl hsl)), (ax, .inl (E.2.1 0, 80, .inl (fun j => nI (T j)))), (atd, .inl (E.2.1 0, 123, .inl (upd (upd td (3 * tlN) (nI 0)) ((3 * tlN) + 1) (-1)))), (av, .inl (E.2.1 0, 64, .inl va)), (ae, .inl (E.2.1 0, 64, .inl er))]) cx 6 rfl rfl (vp_in_nI (by omega) (by omega)) (by rw [nI_clamp (by omega)]; rfl) dX5_command_186 ?_
            refine g_aload_n cx dX5_command_187 rfl ?_
            refine g_get (C := RX5) (T := TX5) (N := 14) (ci := 5) cx hiX5 0 9 (by decide) rfl (by decide +kernel) rfl rfl dX5_command_188 ?_
            refine g_iconst cx dX5_command_191 kc_i3 ?_
            refine g_aload_n cx dX5_command_192 rfl ?_
            refine g_get (C := RX5) (T := TX5) (N := 14) (ci := 5) cx hiX5 0 10 (by decide) rfl (by decide +kernel) rfl rfl dX5_command_193 ?_
            refine g_imul cx dX5_command_196 ?_
            refine g_top (pk_mul 3 tlN) ?_
            refine g_iconst cx dX5_command_197 kc_i2 ?_
            refine g_iadd cx dX5_command_198 ?_
            refine g_top (nI_add (3 * tlN) 2) ?_
            refine g_iload cx dX5_command_199 rfl ?_
            refine g_iast (ws' := [(h, .inr (5, [.ref an, .ref ap_, .ref asl, .ref ah, .int (nI hN), .ref ax, .int (nI tyN), .int th, .int (nI at_), .ref atd, .int (nI tlN), .ref av, .ref ae, .int go])), (an, .inl (E.2.1 0, 67, .inl nw)), (ap_, .inl (E.2.1 0, 402, .inl ps)), (asl, .inl (E.2.1 0, 134, .inl sl)), (ah, .inl (E.2.1 0, 2, .inl hsl)), (ax, .inl (E.2.1 0, 80, .inl (fun j => nI (T j)))), (atd, .inl (E.2.1 0, 123, .inl (upd (upd (upd td (3 * tlN) (nI 0)) ((3 * tlN) + 1) (-1)) ((3 * tlN) + 2) (nI 0)))), (av, .inl (E.2.1 0, 64, .inl va)), (ae, .inl (E.2.1 0, 64, .inl er))]) cx 6 rfl rfl (vp_in_nI (by omega) (by omega)) (by rw [nI_clamp (by omega)]; rfl) dX5_command_201 ?_
            refine g_aload_n cx dX5_command_202 rfl ?_
            refine g_dup cx dX5_command_203 rfl ?_
            refine g_get (C := RX5) (T := TX5) (N := 14) (ci := 5) cx hiX5 0 10 (by decide) rfl (by decide +kernel) rfl rfl dX5_command_204 ?_
            refine g_iconst cx dX5_command_207 kc_i1 ?_
            refine g_iadd cx dX5_command_208 ?_
            refine g_top (nI_add tlN 1) ?_
            refine g_put (ws' := [(h, .inr (5, [.ref an, .ref ap_, .ref asl, .ref ah, .int (nI hN), .ref ax, .int (nI tyN), .int th, .int (nI at_), .ref atd, .int (nI (tlN + 1)), .ref av, .ref ae, .int go])), (an, .inl (E.2.1 0, 67, .inl nw)), (ap_, .inl (E.2.1 0, 402, .inl ps)), (asl, .inl (E.2.1 0, 134, .inl sl)), (ah, .inl (E.2.1 0, 2, .inl hsl)), (ax, .inl (E.2.1 0, 80, .inl (fun j => nI (T j)))), (atd, .inl (E.2.1 0, 123, .inl (upd (upd (upd td (3 * tlN) (nI 0)) ((3 * tlN) + 1) (-1)) ((3 * tlN) + 2) (nI 0)))), (av, .inl (E.2.1 0, 64, .inl va)), (ae, .inl (E.2.1 0, 64, .inl er))]) (C := RX5) (T := TX5) (N := 14) (ci := 5) cx hiX5 tyX5 tyX5_ok nmX5 0 10 (by decide) rfl (by decide +kernel) rfl rfl rfl rfl rfl (Nat.le_of_ble_eq_true rfl) rfl dX5_command_209 ?_
            refine g_iload_n cx dX5_command_212 rfl ?_
            refine g_if_lt (tgt := 225) cx dX5_command_213 (by decide) (fun z117 => ?_) (fun z117 => absurd z117 (by decide +kernel))
            have z117 := gi0_lt z117
            refine g_iconst cx dX5_command_225 kc_i0 ?_
            exact g_zretE cx (by decide +kernel) dX5_command_226 (by rw [hq] <;> rfl) (by rw [hq]; first | exact gB_t | exact gB_f)
set_option maxRecDepth 100000 in
set_option maxHeartbeats 4000000 in
theorem c_X5_reads (l : Launch) (E : gEnv) (h : Nat) (an : Nat) (ap_ : Nat) (asl : Nat) (ah : Nat) (ax : Nat) (atd : Nat) (av : Nat) (ae : Nat) (nw : Nat → Int32) (ps : Nat → Int32) (sl : Nat → Int32) (hsl : Nat → Int32) (td : Nat → Int32) (va : Nat → Int32) (er : Nat → Int32) (T : Nat → Nat) (hN : Nat) (tyN : Nat) (at_ : Nat) (tlN : Nat) (th : Int32) (go : Int32) (hty : tyN ≤ 80) (hT : ∀ j, T j < 128) : gM l yX5_reads wsX5_reads ({ frames := 3, cells := 0, slots := 0, locals := 68 } : Room) E [.ref h] [(h, .inr (5, [.ref an, .ref ap_, .ref asl, .ref ah, .int (nI hN), .ref ax, .int (nI tyN), .int th, .int (nI at_), .ref atd, .int (nI tlN), .ref av, .ref ae, .int go])), (an, .inl (E.2.1 0, 67, .inl nw)), (ap_, .inl (E.2.1 0, 402, .inl ps)), (asl, .inl (E.2.1 0, 134, .inl sl)), (ah, .inl (E.2.1 0, 2, .inl hsl)), (ax, .inl (E.2.1 0, 80, .inl (fun j => nI (T j)))), (atd, .inl (E.2.1 0, 123, .inl td)), (av, .inl (E.2.1 0, 64, .inl va)), (ae, .inl (E.2.1 0, 64, .inl er))] [(h, .inr (5, [.ref an, .ref ap_, .ref asl, .ref ah, .int (nI hN), .ref ax, .int (nI tyN), .int th, .int (nI ((rdA T tyN td).2.1)), .ref atd, .int (nI ((rdA T tyN td).2.2.2)), .ref av, .ref ae, .int go])), (an, .inl (E.2.1 0, 67, .inl nw)), (ap_, .inl (E.2.1 0, 402, .inl ps)), (asl, .inl (E.2.1 0, 134, .inl sl)), (ah, .inl (E.2.1 0, 2, .inl hsl)), (ax, .inl (E.2.1 0, 80, .inl (fun j => nI (T j)))), (atd, .inl (E.2.1 0, 123, .inl ((rdA T tyN td).2.2.1))), (av, .inl (E.2.1 0, 64, .inl va)), (ae, .inl (E.2.1 0, 64, .inl er))] (some (.int (gB (rdB (rdA T tyN td) tyN)))) := by
  refine gM.ofG (cc := cX5_reads) (nL := 2) (ret := (some .boolean)) (own := RX5) [(0, .ref h)] (by decide) rfl rfl (Nat.le_of_ble_eq_true rfl) rfl rfl ?_
  intro pX eX sX mX bX tX cX A cx
  have hiX5 : ∀ w ∈ u_ws RX5 TX5 14, w ∈ wsX5_reads := by decide +kernel
  have hc0 := cmd_f (T := T) (n := tyN) (Nat.zero_le _) hT
  refine g_aload_n cx dX5_reads_0 rfl ?_
  refine g_iconst cx dX5_reads_1 kc_i0 ?_
  refine g_put (ws' := [(h, .inr (5, [.ref an, .ref ap_, .ref asl, .ref ah, .int (nI hN), .ref ax, .int (nI tyN), .int th, .int (nI 0), .ref atd, .int (nI tlN), .ref av, .ref ae, .int go])), (an, .inl (E.2.1 0, 67, .inl nw)), (ap_, .inl (E.2.1 0, 402, .inl ps)), (asl, .inl (E.2.1 0, 134, .inl sl)), (ah, .inl (E.2.1 0, 2, .inl hsl)), (ax, .inl (E.2.1 0, 80, .inl (fun j => nI (T j)))), (atd, .inl (E.2.1 0, 123, .inl td)), (av, .inl (E.2.1 0, 64, .inl va)), (ae, .inl (E.2.1 0, 64, .inl er))]) (C := RX5) (T := TX5) (N := 14) (ci := 5) cx hiX5 tyX5 tyX5_ok nmX5 0 8 (by decide) rfl (by decide +kernel) rfl rfl rfl rfl rfl (Nat.le_of_ble_eq_true rfl) rfl dX5_reads_2 ?_
  refine g_aload_n cx dX5_reads_5 rfl ?_
  refine g_iconst cx dX5_reads_6 kc_i0 ?_
  refine g_put (ws' := [(h, .inr (5, [.ref an, .ref ap_, .ref asl, .ref ah, .int (nI hN), .ref ax, .int (nI tyN), .int th, .int (nI 0), .ref atd, .int (nI 0), .ref av, .ref ae, .int go])), (an, .inl (E.2.1 0, 67, .inl nw)), (ap_, .inl (E.2.1 0, 402, .inl ps)), (asl, .inl (E.2.1 0, 134, .inl sl)), (ah, .inl (E.2.1 0, 2, .inl hsl)), (ax, .inl (E.2.1 0, 80, .inl (fun j => nI (T j)))), (atd, .inl (E.2.1 0, 123, .inl td)), (av, .inl (E.2.1 0, 64, .inl va)), (ae, .inl (E.2.1 0, 64, .inl er))]) (C := RX5) (T := TX5) (N := 14) (ci := 5) cx hiX5 tyX5 tyX5_ok nmX5 0 10 (by decide) rfl (by decide +kernel) rfl rfl rfl rfl rfl (Nat.le_of_ble_eq_true rfl) rfl dX5_reads_7 ?_
  refine g_aload_n cx dX5_reads_10 rfl ?_
  refine g_callV (ws' := [(h, .inr (5, [.ref an, .ref ap_, .ref asl, .ref ah, .int (nI hN), .ref ax, .int (nI tyN), .int th, .int (nI ((cmd T tyN 0).2.1)), .ref atd, .int (nI (0 + 1)), .ref av, .ref ae, .int go])), (an, .inl (E.2.1 0, 67, .inl nw)), (ap_, .inl (E.2.1 0, 402, .inl ps)), (asl, .inl (E.2.1 0, 134, .inl sl)), (ah, .inl (E.2.1 0, 2, .inl hsl)), (ax, .inl (E.2.1 0, 80, .inl (fun j => nI (T j)))), (atd, .inl (E.2.1 0, 123, .inl (tw td 0 (cmd T tyN 0).2.2))), (av, .inl (E.2.1 0, 64, .inl va)), (ae, .inl (E.2.1 0, 64, .inl er))]) (As := []) (rest := []) (n := 0) (T := TX5) (N := 14) (ci := 5) cx (c_X5_command l E h an ap_ asl ah ax atd av ae nw ps sl hsl td va er T hN tyN 0 0 th go (by omega) (by omega) (by omega) hT) gX5_reads_X5_command rfl (by decide +kernel) rfl rfl ⟨Nat.le_of_ble_eq_true rfl, Nat.le_of_ble_eq_true rfl⟩ ⟨Nat.zero_le _, Nat.zero_le _⟩ [0, 1, 2, 3, 4, 5, 6, 7, 8] 0 rfl rfl (by decide) rfl rfl rfl rfl (Nat.le_of_ble_eq_true rfl) dX5_reads_11 ?_
  refine g_istore_n (lv' := [(1, .int (gB ((cmd T tyN 0).1))), (0, .ref h)]) cx dX5_reads_14 rfl (by decide) rfl ?_
  have L15 : ∀ (n_ : Nat) (m9 : Nat) (gb : Bool) (a9 : Nat) (td9 : Nat → Int32) (tl9 : Nat), m9 < n_ → a9 ≤ tyN → tyN - a9 ≤ m9 → (gb = true → 2 * tl9 ≤ a9 + 1) → rdl T tyN m9 gb a9 td9 tl9 = (rdA T tyN td) → gG pX l eX ({ frames := 3, cells := 0, slots := 0, locals := 68 } : Room) sX mX ([.ref h] : List Value).toArray bX tX cX 2 E A (MQ bX (gQ E [(h, .inr (5, [.ref an, .ref ap_, .ref asl, .ref ah, .int (nI hN), .ref ax, .int (nI tyN), .int th, .int (nI ((rdA T tyN td).2.1)), .ref atd, .int (nI ((rdA T tyN td).2.2.2)), .ref av, .ref ae, .int go])), (an, .inl (E.2.1 0, 67, .inl nw)), (ap_, .inl (E.2.1 0, 402, .inl ps)), (asl, .inl (E.2.1 0, 134, .inl sl)), (ah, .inl (E.2.1 0, 2, .inl hsl)), (ax, .inl (E.2.1 0, 80, .inl (fun j => nI (T j)))), (atd, .inl (E.2.1 0, 123, .inl ((rdA T tyN td).2.2.1))), (av, .inl (E.2.1 0, 64, .inl va)), (ae, .inl (E.2.1 0, 64, .inl er))] (some (.int (gB (rdB (rdA T tyN td) tyN)))) A) ([.ref h] : List Value).toArray sX 0 0 A) 0 0 [(h, .inr (5, [.ref an, .ref ap_, .ref asl, .ref ah, .int (nI hN), .ref ax, .int (nI tyN), .int th, .int (nI a9), .ref atd, .int (nI tl9), .ref av, .ref ae, .int go])), (an, .inl (E.2.1 0, 67, .inl nw)), (ap_, .inl (E.2.1 0, 402, .inl ps)), (asl, .inl (E.2.1 0, 134, .inl sl)), (ah, .inl (E.2.1 0, 2, .inl hsl)), (ax, .inl (E.2.1 0, 80, .inl (fun j => nI (T j)))), (atd, .inl (E.2.1 0, 123, .inl td9)), (av, .inl (E.2.1 0, 64, .inl va)), (ae, .inl (E.2.1 0, 64, .inl er))] [(0, .ref h), (1, .int (gB gb))] [] 15 := by
    intro n_
    induction n_ with
    | zero => intro m9 gb a9 td9 tl9 hm_; exact absurd hm_ (Nat.not_lt_zero _)
    | succ n_ ih_L15 =>
      intro m9 gb a9 td9 tl9 hm_ ha9 hm9 hg he
      refine g_iload_n cx dX5_reads_15 rfl ?_
      refine g_if_eq (tgt := 36) cx dX5_reads_16 (by decide) (fun z1 => ?_) (fun z1 => ?_)
      ·
        have z1 := gB_eq0 z1
        obtain rfl : false = gb := (z1).symm
        have hr := he.symm.trans (rdl_stop (fun z => Bool.false_ne_true z.1))
        refine g_iload_n cx dX5_reads_36 rfl ?_
        refine g_if_eq (tgt := 55) cx dX5_reads_37 (by decide) (fun z2 => ?_) (fun z2 => absurd ((rfl : false = false).symm.trans (gB_ne0 z2)) (by decide))
        have z2 := gB_eq0 z2
        refine g_iconst cx dX5_reads_55 kc_i0 ?_
        exact g_zretE cx (by decide +kernel) dX5_reads_56 (by rw [hr] <;> rfl) (by rw [hr]; first | exact gB_off rfl | exact gB_of (show (true && decide (a9 = tyN)) = true from by rw [Bool.true_and]; exact decide_eq_true (by omega)) | exact gB_off (show (true && decide (a9 = tyN)) = false from by rw [Bool.true_and]; exact decide_eq_false (by omega)))
      ·
        have z1 := gB_ne0 z1
        have hg2 := hg z1
        by_cases h59 : a9 < tyN ∧ T a9 = 59
        ·
          refine g_aload_n cx dX5_reads_19 rfl ?_
          refine g_bipush cx dX5_reads_20 kc_b59 ?_
          refine g_callV (ws' := [(h, .inr (5, [.ref an, .ref ap_, .ref asl, .ref ah, .int (nI hN), .ref ax, .int (nI tyN), .int th, .int (nI (a9 + 1)), .ref atd, .int (nI tl9), .ref av, .ref ae, .int go])), (an, .inl (E.2.1 0, 67, .inl nw)), (ap_, .inl (E.2.1 0, 402, .inl ps)), (asl, .inl (E.2.1 0, 134, .inl sl)), (ah, .inl (E.2.1 0, 2, .inl hsl)), (ax, .inl (E.2.1 0, 80, .inl (fun j => nI (T j)))), (atd, .inl (E.2.1 0, 123, .inl td9)), (av, .inl (E.2.1 0, 64, .inl va)), (ae, .inl (E.2.1 0, 64, .inl er))]) (As := [.int (nI 59)]) (rest := []) (n := 1) (T := TX5) (N := 14) (ci := 5) cx (c_X5_sees_t l E h an ap_ asl ah ax atd av ae nw ps sl hsl td9 va er T hN tyN a9 tl9 th go 59 h59.1 h59.2 (by omega) hT) gX5_reads_X5_sees rfl (by decide +kernel) rfl rfl ⟨Nat.le_of_ble_eq_true rfl, Nat.le_of_ble_eq_true rfl⟩ ⟨Nat.zero_le _, Nat.zero_le _⟩ [0, 1, 2, 3, 4, 5, 6, 7, 8] 0 rfl rfl (by decide) rfl rfl rfl rfl (Nat.le_of_ble_eq_true rfl) dX5_reads_22 ?_
          refine g_if_eq (tgt := 36) cx dX5_reads_25 (by decide) (fun z3 => absurd ((rfl : true = true).symm.trans (gB_eq0 z3)) (by decide)) (fun z3 => ?_)
          have z3 := gB_ne0 z3
          have hc1 := cmd_f (T := T) (n := tyN) (a := a9 + 1) (by omega) hT
          refine g_aload_n cx dX5_reads_28 rfl ?_
          refine g_callV (ws' := [(h, .inr (5, [.ref an, .ref ap_, .ref asl, .ref ah, .int (nI hN), .ref ax, .int (nI tyN), .int th, .int (nI ((cmd T tyN (a9 + 1)).2.1)), .ref atd, .int (nI (tl9 + 1)), .ref av, .ref ae, .int go])), (an, .inl (E.2.1 0, 67, .inl nw)), (ap_, .inl (E.2.1 0, 402, .inl ps)), (asl, .inl (E.2.1 0, 134, .inl sl)), (ah, .inl (E.2.1 0, 2, .inl hsl)), (ax, .inl (E.2.1 0, 80, .inl (fun j => nI (T j)))), (atd, .inl (E.2.1 0, 123, .inl (tw td9 tl9 (cmd T tyN (a9 + 1)).2.2))), (av, .inl (E.2.1 0, 64, .inl va)), (ae, .inl (E.2.1 0, 64, .inl er))]) (As := []) (rest := []) (n := 0) (T := TX5) (N := 14) (ci := 5) cx (c_X5_command l E h an ap_ asl ah ax atd av ae nw ps sl hsl td9 va er T hN tyN (a9 + 1) tl9 th go (by omega) (by omega) (by omega) hT) gX5_reads_X5_command rfl (by decide +kernel) rfl rfl ⟨Nat.le_of_ble_eq_true rfl, Nat.le_of_ble_eq_true rfl⟩ ⟨Nat.zero_le _, Nat.zero_le _⟩ [0, 1, 2, 3, 4, 5, 6, 7, 8] 0 rfl rfl (by decide) rfl rfl rfl rfl (Nat.le_of_ble_eq_true rfl) dX5_reads_29 ?_
          refine g_istore_n (lv' := [(1, .int (gB ((cmd T tyN (a9 + 1)).1))), (0, .ref h)]) cx dX5_reads_32 rfl (by decide) rfl ?_
          refine g_goto (tgt := 15) cx dX5_reads_33 (by decide) ?_
          refine g_lv [1, 0] rfl ?_
          exact ih_L15 (m9 - 1) ((cmd T tyN (a9 + 1)).1) ((cmd T tyN (a9 + 1)).2.1) (tw td9 tl9 (cmd T tyN (a9 + 1)).2.2) (tl9 + 1) (by omega) hc1.1.2 (by have := hc1.1.1; omega) (fun q => by have := (hc1.2 q).1; omega) ((rdl_go (by omega) ⟨by assumption, h59⟩).symm.trans he)
        ·
          refine g_aload_n cx dX5_reads_19 rfl ?_
          refine g_bipush cx dX5_reads_20 kc_b59 ?_
          refine g_callV (ws' := [(h, .inr (5, [.ref an, .ref ap_, .ref asl, .ref ah, .int (nI hN), .ref ax, .int (nI tyN), .int th, .int (nI a9), .ref atd, .int (nI tl9), .ref av, .ref ae, .int go])), (an, .inl (E.2.1 0, 67, .inl nw)), (ap_, .inl (E.2.1 0, 402, .inl ps)), (asl, .inl (E.2.1 0, 134, .inl sl)), (ah, .inl (E.2.1 0, 2, .inl hsl)), (ax, .inl (E.2.1 0, 80, .inl (fun j => nI (T j)))), (atd, .inl (E.2.1 0, 123, .inl td9)), (av, .inl (E.2.1 0, 64, .inl va)), (ae, .inl (E.2.1 0, 64, .inl er))]) (As := [.int (nI 59)]) (rest := []) (n := 1) (T := TX5) (N := 14) (ci := 5) cx (c_X5_sees_f l E h an ap_ asl ah ax atd av ae nw ps sl hsl td9 va er T hN tyN a9 tl9 th go 59 h59 (by omega) (by omega) (by omega) hT) gX5_reads_X5_sees rfl (by decide +kernel) rfl rfl ⟨Nat.le_of_ble_eq_true rfl, Nat.le_of_ble_eq_true rfl⟩ ⟨Nat.zero_le _, Nat.zero_le _⟩ [0, 1, 2, 3, 4, 5, 6, 7, 8] 0 rfl rfl (by decide) rfl rfl rfl rfl (Nat.le_of_ble_eq_true rfl) dX5_reads_22 ?_
          refine g_if_eq (tgt := 36) cx dX5_reads_25 (by decide) (fun z4 => ?_) (fun z4 => absurd ((rfl : false = false).symm.trans (gB_ne0 z4)) (by decide))
          have z4 := gB_eq0 z4
          obtain rfl : true = gb := (z1).symm
          have hr := he.symm.trans (rdl_stop (fun z => h59 z.2))
          refine g_iload_n cx dX5_reads_36 rfl ?_
          refine g_if_eq (tgt := 55) cx dX5_reads_37 (by decide) (fun z5 => absurd ((rfl : true = true).symm.trans (gB_eq0 z5)) (by decide)) (fun z5 => ?_)
          have z5 := gB_ne0 z5
          refine g_aload_n cx dX5_reads_40 rfl ?_
          refine g_get (C := RX5) (T := TX5) (N := 14) (ci := 5) cx hiX5 0 8 (by decide) rfl (by decide +kernel) rfl rfl dX5_reads_41 ?_
          refine g_aload_n cx dX5_reads_44 rfl ?_
          refine g_get (C := RX5) (T := TX5) (N := 14) (ci := 5) cx hiX5 0 6 (by decide) rfl (by decide +kernel) rfl rfl dX5_reads_45 ?_
          refine g_icmp_ne (tgt := 55) cx dX5_reads_48 (by decide) (fun z6 => ?_) (fun z6 => ?_)
          ·
            have z6 := gn_ne (a := a9) (b := tyN) z6
            refine g_iconst cx dX5_reads_55 kc_i0 ?_
            exact g_zretE cx (by decide +kernel) dX5_reads_56 (by rw [hr] <;> rfl) (by rw [hr]; first | exact gB_off rfl | exact gB_of (show (true && decide (a9 = tyN)) = true from by rw [Bool.true_and]; exact decide_eq_true (by omega)) | exact gB_off (show (true && decide (a9 = tyN)) = false from by rw [Bool.true_and]; exact decide_eq_false (by omega)))
          ·
            have z6 := gn_eq (a := a9) (b := tyN) (by omega) (by omega) z6
            refine g_iconst cx dX5_reads_51 kc_i1 ?_
            refine g_goto (tgt := 56) cx dX5_reads_52 (by decide) ?_
            exact g_zretE cx (by decide +kernel) dX5_reads_56 (by rw [hr] <;> rfl) (by rw [hr]; first | exact gB_off rfl | exact gB_of (show (true && decide (a9 = tyN)) = true from by rw [Bool.true_and]; exact decide_eq_true (by omega)) | exact gB_off (show (true && decide (a9 = tyN)) = false from by rw [Bool.true_and]; exact decide_eq_false (by omega)))
  refine g_lv [1, 0] rfl ?_
  exact L15 (tyN + 1) tyN ((cmd T tyN 0).1) ((cmd T tyN 0).2.1) (tw td 0 (cmd T tyN 0).2.2) (0 + 1) (by omega) hc0.1.2 (by omega) (fun q => by have := (hc0.2 q).1; omega) rfl
set_option maxRecDepth 100000 in
set_option maxHeartbeats 4000000 in
theorem c_X5_textError (l : Launch) (E : gEnv) (h : Nat) (an : Nat) (ap_ : Nat) (asl : Nat) (ah : Nat) (ax : Nat) (atd : Nat) (av : Nat) (ae : Nat) (nw : Nat → Int32) (ps : Nat → Int32) (sl : Nat → Int32) (hsl : Nat → Int32) (td : Nat → Int32) (va : Nat → Int32) (er : Nat → Int32) (T : Nat → Nat) (hN : Nat) (tyN : Nat) (at_ : Nat) (tlN : Nat) (th : Int32) (go : Int32) (hty : tyN ≤ 80) (hT : ∀ j, T j < 128) : gM l yX5_textError wsX5_textError ({ frames := 4, cells := 0, slots := 0, locals := 89 } : Room) E [.ref h] [(h, .inr (5, [.ref an, .ref ap_, .ref asl, .ref ah, .int (nI hN), .ref ax, .int (nI tyN), .int th, .int (nI at_), .ref atd, .int (nI tlN), .ref av, .ref ae, .int go])), (an, .inl (E.2.1 0, 67, .inl nw)), (ap_, .inl (E.2.1 0, 402, .inl ps)), (asl, .inl (E.2.1 0, 134, .inl sl)), (ah, .inl (E.2.1 0, 2, .inl hsl)), (ax, .inl (E.2.1 0, 80, .inl (fun j => nI (T j)))), (atd, .inl (E.2.1 0, 123, .inl td)), (av, .inl (E.2.1 0, 64, .inl va)), (ae, .inl (E.2.1 0, 64, .inl er))] [(h, .inr (5, [.ref an, .ref ap_, .ref asl, .ref ah, .int (nI hN), .ref ax, .int (nI tyN), .int (nI 0), .int (nI ((rdA T tyN td).2.1)), .ref atd, .int (nI ((rdA T tyN td).2.2.2)), .ref av, .ref ae, .int go])), (an, .inl (E.2.1 0, 67, .inl nw)), (ap_, .inl (E.2.1 0, 402, .inl ps)), (asl, .inl (E.2.1 0, 134, .inl sl)), (ah, .inl (E.2.1 0, 2, .inl hsl)), (ax, .inl (E.2.1 0, 80, .inl (fun j => nI (T j)))), (atd, .inl (E.2.1 0, 123, .inl ((rdA T tyN td).2.2.1))), (av, .inl (E.2.1 0, 64, .inl va)), (ae, .inl (E.2.1 0, 64, .inl er))] (some (.int (rdI (rdA T tyN td) tyN))) := by
  refine gM.ofG (cc := cX5_textError) (nL := 1) (ret := (some .int)) (own := RX5) [(0, .ref h)] (by decide) rfl rfl (Nat.le_of_ble_eq_true rfl) rfl rfl ?_
  intro pX eX sX mX bX tX cX A cx
  have hiX5 : ∀ w ∈ u_ws RX5 TX5 14, w ∈ wsX5_textError := by decide +kernel
  refine g_aload_n cx dX5_textError_0 rfl ?_
  refine g_iconst cx dX5_textError_1 kc_i0 ?_
  refine g_put (ws' := [(h, .inr (5, [.ref an, .ref ap_, .ref asl, .ref ah, .int (nI hN), .ref ax, .int (nI tyN), .int (nI 0), .int (nI at_), .ref atd, .int (nI tlN), .ref av, .ref ae, .int go])), (an, .inl (E.2.1 0, 67, .inl nw)), (ap_, .inl (E.2.1 0, 402, .inl ps)), (asl, .inl (E.2.1 0, 134, .inl sl)), (ah, .inl (E.2.1 0, 2, .inl hsl)), (ax, .inl (E.2.1 0, 80, .inl (fun j => nI (T j)))), (atd, .inl (E.2.1 0, 123, .inl td)), (av, .inl (E.2.1 0, 64, .inl va)), (ae, .inl (E.2.1 0, 64, .inl er))]) (C := RX5) (T := TX5) (N := 14) (ci := 5) cx hiX5 tyX5 tyX5_ok nmX5 0 7 (by decide) rfl (by decide +kernel) rfl rfl rfl rfl rfl (Nat.le_of_ble_eq_true rfl) rfl dX5_textError_2 ?_
  refine g_aload_n cx dX5_textError_5 rfl ?_
  refine g_callV (ws' := [(h, .inr (5, [.ref an, .ref ap_, .ref asl, .ref ah, .int (nI hN), .ref ax, .int (nI tyN), .int (nI 0), .int (nI ((rdA T tyN td).2.1)), .ref atd, .int (nI ((rdA T tyN td).2.2.2)), .ref av, .ref ae, .int go])), (an, .inl (E.2.1 0, 67, .inl nw)), (ap_, .inl (E.2.1 0, 402, .inl ps)), (asl, .inl (E.2.1 0, 134, .inl sl)), (ah, .inl (E.2.1 0, 2, .inl hsl)), (ax, .inl (E.2.1 0, 80, .inl (fun j => nI (T j)))), (atd, .inl (E.2.1 0, 123, .inl ((rdA T tyN td).2.2.1))), (av, .inl (E.2.1 0, 64, .inl va)), (ae, .inl (E.2.1 0, 64, .inl er))]) (As := []) (rest := []) (n := 0) (T := TX5) (N := 14) (ci := 5) cx (c_X5_reads l E h an ap_ asl ah ax atd av ae nw ps sl hsl td va er T hN tyN at_ tlN (nI 0) go (by omega) hT) gX5_textError_X5_reads rfl (by decide +kernel) rfl rfl ⟨Nat.le_of_ble_eq_true rfl, Nat.le_of_ble_eq_true rfl⟩ ⟨Nat.zero_le _, Nat.zero_le _⟩ [0, 1, 2, 3, 4, 5, 6, 7, 8] 0 rfl rfl (by decide) rfl rfl rfl rfl (Nat.le_of_ble_eq_true rfl) dX5_textError_6 ?_
  refine g_if_eq (tgt := 16) cx dX5_textError_9 (by decide) (fun z1 => ?_) (fun z1 => ?_)
  ·
    have z1 := gB_eq0 z1
    refine g_aload_n cx dX5_textError_16 rfl ?_
    refine g_get (C := RX5) (T := TX5) (N := 14) (ci := 5) cx hiX5 0 8 (by decide) rfl (by decide +kernel) rfl rfl dX5_textError_17 ?_
    exact g_iretE cx dX5_textError_20 (rfl) (by unfold rdI; first | exact (if_pos (by assumption)).symm | exact (if_neg (by simp_all)).symm)
  ·
    have z1 := gB_ne0 z1
    refine g_iconst cx dX5_textError_12 kc_im1 ?_
    refine g_goto (tgt := 20) cx dX5_textError_13 (by decide) ?_
    exact g_iretE cx dX5_textError_20 (rfl) (by unfold rdI; first | exact (if_pos (by assumption)).symm | exact (if_neg (by simp_all)).symm)
set_option maxRecDepth 100000 in
set_option maxHeartbeats 4000000 in
theorem c_X5_does (l : Launch) (E : gEnv) (h : Nat) (an : Nat) (ap_ : Nat) (asl : Nat) (ah : Nat) (ax : Nat) (atd : Nat) (av : Nat) (ae : Nat) (nw : Nat → Int32) (ps : Nat → Int32) (sl : Nat → Int32) (hsl : Nat → Int32) (td : Nat → Int32) (va : Nat → Int32) (er : Nat → Int32) (T : Nat → Nat) (hN : Nat) (tyN : Nat) (at_ : Nat) (tlN : Nat) (th : Int32) (go : Int32) (pp : Nat) (s : Nat) (v : Nat) (w9 : Nat) (hs : sorts s) (h0 : td pp = nI s) (h1 : td (pp + 1) = nI v) (h2 : td (pp + 2) = nI w9) (hpp : pp + 2 < 123) (hv : v ≤ 999) (hw9 : w9 ≤ 999) : gM l yX5_does wsX5_does ({ frames := 2, cells := 0, slots := 0, locals := 43 } : Room) E [.ref h, .int (nI pp)] [(h, .inr (5, [.ref an, .ref ap_, .ref asl, .ref ah, .int (nI hN), .ref ax, .int (nI tyN), .int th, .int (nI at_), .ref atd, .int (nI tlN), .ref av, .ref ae, .int go])), (an, .inl (E.2.1 0, 67, .inl nw)), (ap_, .inl (E.2.1 0, 402, .inl ps)), (asl, .inl (E.2.1 0, 134, .inl sl)), (ah, .inl (E.2.1 0, 2, .inl hsl)), (ax, .inl (E.2.1 0, 80, .inl (fun j => nI (T j)))), (atd, .inl (E.2.1 0, 123, .inl td)), (av, .inl (E.2.1 0, 64, .inl va)), (ae, .inl (E.2.1 0, 64, .inl er))] [(h, .inr (5, [.ref an, .ref ap_, .ref asl, .ref ah, .int (nI hN), .ref ax, .int (nI tyN), .int th, .int (nI at_), .ref atd, .int (nI tlN), .ref av, .ref ae, .int go])), (an, .inl (E.2.1 0, 67, .inl ((dsN nw s v w9).2))), (ap_, .inl (E.2.1 0, 402, .inl ps)), (asl, .inl (E.2.1 0, 134, .inl sl)), (ah, .inl (E.2.1 0, 2, .inl hsl)), (ax, .inl (E.2.1 0, 80, .inl (fun j => nI (T j)))), (atd, .inl (E.2.1 0, 123, .inl td)), (av, .inl (E.2.1 0, 64, .inl va)), (ae, .inl (E.2.1 0, 64, .inl er))] (some (.int (gB ((dsN nw s v w9).1)))) := by
  refine gM.ofG (cc := cX5_does) (nL := 6) (ret := (some .boolean)) (own := RX5) [(0, .ref h), (1, .int (nI pp))] (by decide) rfl rfl (Nat.le_of_ble_eq_true rfl) rfl rfl ?_
  intro pX eX sX mX bX tX cX A cx
  have hiX5 : ∀ w ∈ u_ws RX5 TX5 14, w ∈ wsX5_does := by decide +kernel
  rcases hs with rfl | rfl | rfl | rfl | rfl
  ·
    refine g_aload_n cx dX5_does_0 rfl ?_
    refine g_get (C := RX5) (T := TX5) (N := 14) (ci := 5) cx hiX5 0 9 (by decide) rfl (by decide +kernel) rfl rfl dX5_does_1 ?_
    refine g_iload_n cx dX5_does_4 rfl ?_
    refine g_iald cx 6 rfl rfl (vp_in_nI (by omega) (by omega)) (congrArg _ (nI_clamp (by omega))) dX5_does_5 ?_
    refine g_top (show td pp = nI 103 from h0) ?_
    refine g_istore_n (lv' := [(2, .int (nI 103)), (0, .ref h), (1, .int (nI pp))]) cx dX5_does_6 rfl (by decide) rfl ?_
    refine g_aload_n cx dX5_does_7 rfl ?_
    refine g_get (C := RX5) (T := TX5) (N := 14) (ci := 5) cx hiX5 0 9 (by decide) rfl (by decide +kernel) rfl rfl dX5_does_8 ?_
    refine g_iload_n cx dX5_does_11 rfl ?_
    refine g_iconst cx dX5_does_12 kc_i1 ?_
    refine g_iadd cx dX5_does_13 ?_
    refine g_top (nI_add pp 1) ?_
    refine g_iald cx 6 rfl rfl (vp_in_nI (by omega) (by omega)) (congrArg _ (nI_clamp (by omega))) dX5_does_14 ?_
    refine g_top (show (td (pp + 1)) = nI v from h1) ?_
    refine g_istore_n (lv' := [(3, .int (nI v)), (2, .int (nI 103)), (0, .ref h), (1, .int (nI pp))]) cx dX5_does_15 rfl (by decide) rfl ?_
    refine g_aload_n cx dX5_does_16 rfl ?_
    refine g_get (C := RX5) (T := TX5) (N := 14) (ci := 5) cx hiX5 0 9 (by decide) rfl (by decide +kernel) rfl rfl dX5_does_17 ?_
    refine g_iload_n cx dX5_does_20 rfl ?_
    refine g_iconst cx dX5_does_21 kc_i2 ?_
    refine g_iadd cx dX5_does_22 ?_
    refine g_top (nI_add pp 2) ?_
    refine g_iald cx 6 rfl rfl (vp_in_nI (by omega) (by omega)) (congrArg _ (nI_clamp (by omega))) dX5_does_23 ?_
    refine g_top (show (td (pp + 2)) = nI w9 from h2) ?_
    refine g_istore (lv' := [(4, .int (nI w9)), (3, .int (nI v)), (2, .int (nI 103)), (0, .ref h), (1, .int (nI pp))]) cx dX5_does_24 (by decide) rfl ?_
    refine g_iload_n cx dX5_does_26 rfl ?_
    refine g_bipush cx dX5_does_27 kc_b103 ?_
    refine g_icmp_ne (tgt := 54) cx dX5_does_29 (by decide) (fun z1 => absurd z1 (by decide +kernel)) (fun z1 => ?_)
    have z1 := gn_eq (a := 103) (b := 103) (by omega) (by omega) z1
    refine g_iload_n cx dX5_does_32 rfl ?_
    refine g_bipush cx dX5_does_33 kc_b64 ?_
    refine g_icmp_ge (tgt := 50) cx dX5_does_35 (by decide) (fun z2 => ?_) (fun z2 => ?_)
    ·
      have z2 := gn_le (a := 64) (b := v) (by omega) (by omega) z2
      refine g_iconst cx dX5_does_50 kc_i0 ?_
      refine g_goto (tgt := 87) cx dX5_does_51 (by decide) ?_
      refine g_istore (lv' := [(5, .int (nI 0)), (4, .int (nI w9)), (3, .int (nI v)), (2, .int (nI 103)), (0, .ref h), (1, .int (nI pp))]) cx dX5_does_87 (by decide) rfl ?_
      refine g_iload cx dX5_does_89 rfl ?_
      refine g_if_eq (tgt := 108) cx dX5_does_91 (by decide) (fun z3 => ?_) (fun z3 => absurd z3 (by decide +kernel))
      have z3 := gn_eq0 (by omega) z3
      refine g_iload cx dX5_does_108 rfl ?_
      refine g_if_eq (tgt := 124) cx dX5_does_110 (by decide) (fun z4 => ?_) (fun z4 => absurd z4 (by decide +kernel))
      have z4 := gn_eq0 (by omega) z4
      refine g_iload cx dX5_does_124 rfl ?_
      refine g_if_eq (tgt := 141) cx dX5_does_126 (by decide) (fun z5 => ?_) (fun z5 => absurd z5 (by decide +kernel))
      have z5 := gn_eq0 (by omega) z5
      refine g_aload_n cx dX5_does_141 rfl ?_
      refine g_get (C := RX5) (T := TX5) (N := 14) (ci := 5) cx hiX5 0 0 (by decide) rfl (by decide +kernel) rfl rfl dX5_does_142 ?_
      refine g_bipush cx dX5_does_145 kc_b66 ?_
      refine g_iload cx dX5_does_147 rfl ?_
      refine g_if_eq (tgt := 170) cx dX5_does_149 (by decide) (fun z6 => ?_) (fun z6 => absurd z6 (by decide +kernel))
      have z6 := gn_eq0 (by omega) z6
      refine g_aload_n cx dX5_does_170 rfl ?_
      refine g_get (C := RX5) (T := TX5) (N := 14) (ci := 5) cx hiX5 0 0 (by decide) rfl (by decide +kernel) rfl rfl dX5_does_171 ?_
      refine g_bipush cx dX5_does_174 kc_b66 ?_
      refine g_iald cx 1 rfl rfl (vp_in_nI (by omega) (by omega)) (congrArg _ (nI_clamp (by omega))) dX5_does_176 ?_
      refine g_iast (ws' := [(h, .inr (5, [.ref an, .ref ap_, .ref asl, .ref ah, .int (nI hN), .ref ax, .int (nI tyN), .int th, .int (nI at_), .ref atd, .int (nI tlN), .ref av, .ref ae, .int go])), (an, .inl (E.2.1 0, 67, .inl (upd nw 66 (nw 66)))), (ap_, .inl (E.2.1 0, 402, .inl ps)), (asl, .inl (E.2.1 0, 134, .inl sl)), (ah, .inl (E.2.1 0, 2, .inl hsl)), (ax, .inl (E.2.1 0, 80, .inl (fun j => nI (T j)))), (atd, .inl (E.2.1 0, 123, .inl td)), (av, .inl (E.2.1 0, 64, .inl va)), (ae, .inl (E.2.1 0, 64, .inl er))]) cx 1 rfl rfl (vp_in_nI (by omega) (by omega)) (by rw [nI_clamp (by omega)]; rfl) dX5_does_177 ?_
      refine g_ws (ws' := [(h, .inr (5, [.ref an, .ref ap_, .ref asl, .ref ah, .int (nI hN), .ref ax, .int (nI tyN), .int th, .int (nI at_), .ref atd, .int (nI tlN), .ref av, .ref ae, .int go])), (an, .inl (E.2.1 0, 67, .inl nw)), (ap_, .inl (E.2.1 0, 402, .inl ps)), (asl, .inl (E.2.1 0, 134, .inl sl)), (ah, .inl (E.2.1 0, 2, .inl hsl)), (ax, .inl (E.2.1 0, 80, .inl (fun j => nI (T j)))), (atd, .inl (E.2.1 0, 123, .inl td)), (av, .inl (E.2.1 0, 64, .inl va)), (ae, .inl (E.2.1 0, 64, .inl er))]) (by rw [upd_id]) ?_
      refine g_aload_n cx dX5_does_178 rfl ?_
      refine g_get (C := RX5) (T := TX5) (N := 14) (ci := 5) cx hiX5 0 0 (by decide) rfl (by decide +kernel) rfl rfl dX5_does_179 ?_
      refine g_bipush cx dX5_does_182 kc_b64 ?_
      refine g_iload cx dX5_does_184 rfl ?_
      refine g_if_eq (tgt := 199) cx dX5_does_186 (by decide) (fun z7 => ?_) (fun z7 => absurd z7 (by decide +kernel))
      have z7 := gn_eq0 (by omega) z7
      refine g_aload_n cx dX5_does_199 rfl ?_
      refine g_get (C := RX5) (T := TX5) (N := 14) (ci := 5) cx hiX5 0 0 (by decide) rfl (by decide +kernel) rfl rfl dX5_does_200 ?_
      refine g_bipush cx dX5_does_203 kc_b64 ?_
      refine g_iald cx 1 rfl rfl (vp_in_nI (by omega) (by omega)) (congrArg _ (nI_clamp (by omega))) dX5_does_205 ?_
      refine g_iast (ws' := [(h, .inr (5, [.ref an, .ref ap_, .ref asl, .ref ah, .int (nI hN), .ref ax, .int (nI tyN), .int th, .int (nI at_), .ref atd, .int (nI tlN), .ref av, .ref ae, .int go])), (an, .inl (E.2.1 0, 67, .inl (upd nw 64 (nw 64)))), (ap_, .inl (E.2.1 0, 402, .inl ps)), (asl, .inl (E.2.1 0, 134, .inl sl)), (ah, .inl (E.2.1 0, 2, .inl hsl)), (ax, .inl (E.2.1 0, 80, .inl (fun j => nI (T j)))), (atd, .inl (E.2.1 0, 123, .inl td)), (av, .inl (E.2.1 0, 64, .inl va)), (ae, .inl (E.2.1 0, 64, .inl er))]) cx 1 rfl rfl (vp_in_nI (by omega) (by omega)) (by rw [nI_clamp (by omega)]; rfl) dX5_does_206 ?_
      refine g_ws (ws' := [(h, .inr (5, [.ref an, .ref ap_, .ref asl, .ref ah, .int (nI hN), .ref ax, .int (nI tyN), .int th, .int (nI at_), .ref atd, .int (nI tlN), .ref av, .ref ae, .int go])), (an, .inl (E.2.1 0, 67, .inl nw)), (ap_, .inl (E.2.1 0, 402, .inl ps)), (asl, .inl (E.2.1 0, 134, .inl sl)), (ah, .inl (E.2.1 0, 2, .inl hsl)), (ax, .inl (E.2.1 0, 80, .inl (fun j => nI (T j)))), (atd, .inl (E.2.1 0, 123, .inl td)), (av, .inl (E.2.1 0, 64, .inl va)), (ae, .inl (E.2.1 0, 64, .inl er))]) (by rw [upd_id]) ?_
      have hq : dsN nw 103 v w9 = (false, nw) := by unfold dsN; rw [if_pos rfl]; unfold dsG; rw [if_neg (by rintro ⟨z1, z2⟩; first | omega | simp_all)]
      refine g_iload cx dX5_does_207 rfl ?_
      exact g_zretE cx (by decide +kernel) dX5_does_209 (by rw [hq]) (by rw [hq]; first | exact gB_t | exact gB_f)
    ·
      have z2 := gn_nle (a := 64) (b := v) (by omega) (by omega) z2
      refine g_iload cx dX5_does_38 rfl ?_
      refine g_callS (ws' := [(h, .inr (5, [.ref an, .ref ap_, .ref asl, .ref ah, .int (nI hN), .ref ax, .int (nI tyN), .int th, .int (nI at_), .ref atd, .int (nI tlN), .ref av, .ref ae, .int go])), (an, .inl (E.2.1 0, 67, .inl nw)), (ap_, .inl (E.2.1 0, 402, .inl ps)), (asl, .inl (E.2.1 0, 134, .inl sl)), (ah, .inl (E.2.1 0, 2, .inl hsl)), (ax, .inl (E.2.1 0, 80, .inl (fun j => nI (T j)))), (atd, .inl (E.2.1 0, 123, .inl td)), (av, .inl (E.2.1 0, 64, .inl va)), (ae, .inl (E.2.1 0, 64, .inl er))]) (As := [.int (nI w9)]) (rest := []) (n := 1) cx (c_X5_isGrey l E (nI w9) ) gX5_does_X5_isGrey rfl (by decide +kernel) rfl rfl ⟨Nat.le_of_ble_eq_true rfl, Nat.le_of_ble_eq_true rfl⟩ ⟨Nat.zero_le _, Nat.zero_le _⟩ [] (by decide) rfl rfl rfl rfl (Nat.le_of_ble_eq_true rfl) dX5_does_40 ?_
      refine g_if_eq (tgt := 50) cx dX5_does_43 (by decide) (fun z8 => ?_) (fun z8 => ?_)
      ·
        have z8 := gB_eq0 z8
        refine g_iconst cx dX5_does_50 kc_i0 ?_
        refine g_goto (tgt := 87) cx dX5_does_51 (by decide) ?_
        refine g_istore (lv' := [(5, .int (nI 0)), (4, .int (nI w9)), (3, .int (nI v)), (2, .int (nI 103)), (0, .ref h), (1, .int (nI pp))]) cx dX5_does_87 (by decide) rfl ?_
        refine g_iload cx dX5_does_89 rfl ?_
        refine g_if_eq (tgt := 108) cx dX5_does_91 (by decide) (fun z9 => ?_) (fun z9 => absurd z9 (by decide +kernel))
        have z9 := gn_eq0 (by omega) z9
        refine g_iload cx dX5_does_108 rfl ?_
        refine g_if_eq (tgt := 124) cx dX5_does_110 (by decide) (fun z10 => ?_) (fun z10 => absurd z10 (by decide +kernel))
        have z10 := gn_eq0 (by omega) z10
        refine g_iload cx dX5_does_124 rfl ?_
        refine g_if_eq (tgt := 141) cx dX5_does_126 (by decide) (fun z11 => ?_) (fun z11 => absurd z11 (by decide +kernel))
        have z11 := gn_eq0 (by omega) z11
        refine g_aload_n cx dX5_does_141 rfl ?_
        refine g_get (C := RX5) (T := TX5) (N := 14) (ci := 5) cx hiX5 0 0 (by decide) rfl (by decide +kernel) rfl rfl dX5_does_142 ?_
        refine g_bipush cx dX5_does_145 kc_b66 ?_
        refine g_iload cx dX5_does_147 rfl ?_
        refine g_if_eq (tgt := 170) cx dX5_does_149 (by decide) (fun z12 => ?_) (fun z12 => absurd z12 (by decide +kernel))
        have z12 := gn_eq0 (by omega) z12
        refine g_aload_n cx dX5_does_170 rfl ?_
        refine g_get (C := RX5) (T := TX5) (N := 14) (ci := 5) cx hiX5 0 0 (by decide) rfl (by decide +kernel) rfl rfl dX5_does_171 ?_
        refine g_bipush cx dX5_does_174 kc_b66 ?_
        refine g_iald cx 1 rfl rfl (vp_in_nI (by omega) (by omega)) (congrArg _ (nI_clamp (by omega))) dX5_does_176 ?_
        refine g_iast (ws' := [(h, .inr (5, [.ref an, .ref ap_, .ref asl, .ref ah, .int (nI hN), .ref ax, .int (nI tyN), .int th, .int (nI at_), .ref atd, .int (nI tlN), .ref av, .ref ae, .int go])), (an, .inl (E.2.1 0, 67, .inl (upd nw 66 (nw 66)))), (ap_, .inl (E.2.1 0, 402, .inl ps)), (asl, .inl (E.2.1 0, 134, .inl sl)), (ah, .inl (E.2.1 0, 2, .inl hsl)), (ax, .inl (E.2.1 0, 80, .inl (fun j => nI (T j)))), (atd, .inl (E.2.1 0, 123, .inl td)), (av, .inl (E.2.1 0, 64, .inl va)), (ae, .inl (E.2.1 0, 64, .inl er))]) cx 1 rfl rfl (vp_in_nI (by omega) (by omega)) (by rw [nI_clamp (by omega)]; rfl) dX5_does_177 ?_
        refine g_ws (ws' := [(h, .inr (5, [.ref an, .ref ap_, .ref asl, .ref ah, .int (nI hN), .ref ax, .int (nI tyN), .int th, .int (nI at_), .ref atd, .int (nI tlN), .ref av, .ref ae, .int go])), (an, .inl (E.2.1 0, 67, .inl nw)), (ap_, .inl (E.2.1 0, 402, .inl ps)), (asl, .inl (E.2.1 0, 134, .inl sl)), (ah, .inl (E.2.1 0, 2, .inl hsl)), (ax, .inl (E.2.1 0, 80, .inl (fun j => nI (T j)))), (atd, .inl (E.2.1 0, 123, .inl td)), (av, .inl (E.2.1 0, 64, .inl va)), (ae, .inl (E.2.1 0, 64, .inl er))]) (by rw [upd_id]) ?_
        refine g_aload_n cx dX5_does_178 rfl ?_
        refine g_get (C := RX5) (T := TX5) (N := 14) (ci := 5) cx hiX5 0 0 (by decide) rfl (by decide +kernel) rfl rfl dX5_does_179 ?_
        refine g_bipush cx dX5_does_182 kc_b64 ?_
        refine g_iload cx dX5_does_184 rfl ?_
        refine g_if_eq (tgt := 199) cx dX5_does_186 (by decide) (fun z13 => ?_) (fun z13 => absurd z13 (by decide +kernel))
        have z13 := gn_eq0 (by omega) z13
        refine g_aload_n cx dX5_does_199 rfl ?_
        refine g_get (C := RX5) (T := TX5) (N := 14) (ci := 5) cx hiX5 0 0 (by decide) rfl (by decide +kernel) rfl rfl dX5_does_200 ?_
        refine g_bipush cx dX5_does_203 kc_b64 ?_
        refine g_iald cx 1 rfl rfl (vp_in_nI (by omega) (by omega)) (congrArg _ (nI_clamp (by omega))) dX5_does_205 ?_
        refine g_iast (ws' := [(h, .inr (5, [.ref an, .ref ap_, .ref asl, .ref ah, .int (nI hN), .ref ax, .int (nI tyN), .int th, .int (nI at_), .ref atd, .int (nI tlN), .ref av, .ref ae, .int go])), (an, .inl (E.2.1 0, 67, .inl (upd nw 64 (nw 64)))), (ap_, .inl (E.2.1 0, 402, .inl ps)), (asl, .inl (E.2.1 0, 134, .inl sl)), (ah, .inl (E.2.1 0, 2, .inl hsl)), (ax, .inl (E.2.1 0, 80, .inl (fun j => nI (T j)))), (atd, .inl (E.2.1 0, 123, .inl td)), (av, .inl (E.2.1 0, 64, .inl va)), (ae, .inl (E.2.1 0, 64, .inl er))]) cx 1 rfl rfl (vp_in_nI (by omega) (by omega)) (by rw [nI_clamp (by omega)]; rfl) dX5_does_206 ?_
        refine g_ws (ws' := [(h, .inr (5, [.ref an, .ref ap_, .ref asl, .ref ah, .int (nI hN), .ref ax, .int (nI tyN), .int th, .int (nI at_), .ref atd, .int (nI tlN), .ref av, .ref ae, .int go])), (an, .inl (E.2.1 0, 67, .inl nw)), (ap_, .inl (E.2.1 0, 402, .inl ps)), (asl, .inl (E.2.1 0, 134, .inl sl)), (ah, .inl (E.2.1 0, 2, .inl hsl)), (ax, .inl (E.2.1 0, 80, .inl (fun j => nI (T j)))), (atd, .inl (E.2.1 0, 123, .inl td)), (av, .inl (E.2.1 0, 64, .inl va)), (ae, .inl (E.2.1 0, 64, .inl er))]) (by rw [upd_id]) ?_
        have hq : dsN nw 103 v w9 = (false, nw) := by unfold dsN; rw [if_pos rfl]; unfold dsG; rw [if_neg (by rintro ⟨z1, z2⟩; first | omega | simp_all)]
        refine g_iload cx dX5_does_207 rfl ?_
        exact g_zretE cx (by decide +kernel) dX5_does_209 (by rw [hq]) (by rw [hq]; first | exact gB_t | exact gB_f)
      ·
        have z8 := gB_ne0 z8
        refine g_iconst cx dX5_does_46 kc_i1 ?_
        refine g_goto (tgt := 87) cx dX5_does_47 (by decide) ?_
        refine g_istore (lv' := [(5, .int (nI 1)), (4, .int (nI w9)), (3, .int (nI v)), (2, .int (nI 103)), (0, .ref h), (1, .int (nI pp))]) cx dX5_does_87 (by decide) rfl ?_
        refine g_iload cx dX5_does_89 rfl ?_
        refine g_if_eq (tgt := 108) cx dX5_does_91 (by decide) (fun z14 => absurd z14 (by decide +kernel)) (fun z14 => ?_)
        have z14 := gn_ne0 z14
        refine g_iload_n cx dX5_does_94 rfl ?_
        refine g_bipush cx dX5_does_95 kc_b103 ?_
        refine g_icmp_ne (tgt := 108) cx dX5_does_97 (by decide) (fun z15 => absurd z15 (by decide +kernel)) (fun z15 => ?_)
        have z15 := gn_eq (a := 103) (b := 103) (by omega) (by omega) z15
        refine g_aload_n cx dX5_does_100 rfl ?_
        refine g_get (C := RX5) (T := TX5) (N := 14) (ci := 5) cx hiX5 0 0 (by decide) rfl (by decide +kernel) rfl rfl dX5_does_101 ?_
        refine g_iload_n cx dX5_does_104 rfl ?_
        refine g_iload cx dX5_does_105 rfl ?_
        refine g_iast (ws' := [(h, .inr (5, [.ref an, .ref ap_, .ref asl, .ref ah, .int (nI hN), .ref ax, .int (nI tyN), .int th, .int (nI at_), .ref atd, .int (nI tlN), .ref av, .ref ae, .int go])), (an, .inl (E.2.1 0, 67, .inl (upd nw v (nI w9)))), (ap_, .inl (E.2.1 0, 402, .inl ps)), (asl, .inl (E.2.1 0, 134, .inl sl)), (ah, .inl (E.2.1 0, 2, .inl hsl)), (ax, .inl (E.2.1 0, 80, .inl (fun j => nI (T j)))), (atd, .inl (E.2.1 0, 123, .inl td)), (av, .inl (E.2.1 0, 64, .inl va)), (ae, .inl (E.2.1 0, 64, .inl er))]) cx 1 rfl rfl (vp_in_nI (by omega) (by omega)) (by rw [nI_clamp (by omega)]; rfl) dX5_does_107 ?_
        refine g_iload cx dX5_does_108 rfl ?_
        refine g_if_eq (tgt := 124) cx dX5_does_110 (by decide) (fun z16 => absurd z16 (by decide +kernel)) (fun z16 => ?_)
        have z16 := gn_ne0 z16
        refine g_iload_n cx dX5_does_113 rfl ?_
        refine g_bipush cx dX5_does_114 kc_b105 ?_
        refine g_icmp_ne (tgt := 124) cx dX5_does_116 (by decide) (fun z17 => ?_) (fun z17 => absurd z17 (by decide +kernel))
        have z17 := gn_ne (a := 103) (b := 105) z17
        refine g_iload cx dX5_does_124 rfl ?_
        refine g_if_eq (tgt := 141) cx dX5_does_126 (by decide) (fun z18 => absurd z18 (by decide +kernel)) (fun z18 => ?_)
        have z18 := gn_ne0 z18
        refine g_iload_n cx dX5_does_129 rfl ?_
        refine g_bipush cx dX5_does_130 kc_b116 ?_
        refine g_icmp_ne (tgt := 141) cx dX5_does_132 (by decide) (fun z19 => ?_) (fun z19 => absurd z19 (by decide +kernel))
        have z19 := gn_ne (a := 103) (b := 116) z19
        refine g_aload_n cx dX5_does_141 rfl ?_
        refine g_get (C := RX5) (T := TX5) (N := 14) (ci := 5) cx hiX5 0 0 (by decide) rfl (by decide +kernel) rfl rfl dX5_does_142 ?_
        refine g_bipush cx dX5_does_145 kc_b66 ?_
        refine g_iload cx dX5_does_147 rfl ?_
        refine g_if_eq (tgt := 170) cx dX5_does_149 (by decide) (fun z20 => absurd z20 (by decide +kernel)) (fun z20 => ?_)
        have z20 := gn_ne0 z20
        refine g_iload_n cx dX5_does_152 rfl ?_
        refine g_bipush cx dX5_does_153 kc_b119 ?_
        refine g_icmp_ne (tgt := 170) cx dX5_does_155 (by decide) (fun z21 => ?_) (fun z21 => absurd z21 (by decide +kernel))
        have z21 := gn_ne (a := 103) (b := 119) z21
        refine g_aload_n cx dX5_does_170 rfl ?_
        refine g_get (C := RX5) (T := TX5) (N := 14) (ci := 5) cx hiX5 0 0 (by decide) rfl (by decide +kernel) rfl rfl dX5_does_171 ?_
        refine g_bipush cx dX5_does_174 kc_b66 ?_
        refine g_iald cx 1 rfl rfl (vp_in_nI (by omega) (by omega)) (congrArg _ (nI_clamp (by omega))) dX5_does_176 ?_
        refine g_iast (ws' := [(h, .inr (5, [.ref an, .ref ap_, .ref asl, .ref ah, .int (nI hN), .ref ax, .int (nI tyN), .int th, .int (nI at_), .ref atd, .int (nI tlN), .ref av, .ref ae, .int go])), (an, .inl (E.2.1 0, 67, .inl (upd (upd nw v (nI w9)) 66 ((upd nw v (nI w9)) 66)))), (ap_, .inl (E.2.1 0, 402, .inl ps)), (asl, .inl (E.2.1 0, 134, .inl sl)), (ah, .inl (E.2.1 0, 2, .inl hsl)), (ax, .inl (E.2.1 0, 80, .inl (fun j => nI (T j)))), (atd, .inl (E.2.1 0, 123, .inl td)), (av, .inl (E.2.1 0, 64, .inl va)), (ae, .inl (E.2.1 0, 64, .inl er))]) cx 1 rfl rfl (vp_in_nI (by omega) (by omega)) (by rw [nI_clamp (by omega)]; rfl) dX5_does_177 ?_
        refine g_ws (ws' := [(h, .inr (5, [.ref an, .ref ap_, .ref asl, .ref ah, .int (nI hN), .ref ax, .int (nI tyN), .int th, .int (nI at_), .ref atd, .int (nI tlN), .ref av, .ref ae, .int go])), (an, .inl (E.2.1 0, 67, .inl (upd nw v (nI w9)))), (ap_, .inl (E.2.1 0, 402, .inl ps)), (asl, .inl (E.2.1 0, 134, .inl sl)), (ah, .inl (E.2.1 0, 2, .inl hsl)), (ax, .inl (E.2.1 0, 80, .inl (fun j => nI (T j)))), (atd, .inl (E.2.1 0, 123, .inl td)), (av, .inl (E.2.1 0, 64, .inl va)), (ae, .inl (E.2.1 0, 64, .inl er))]) (by rw [upd_id]) ?_
        refine g_aload_n cx dX5_does_178 rfl ?_
        refine g_get (C := RX5) (T := TX5) (N := 14) (ci := 5) cx hiX5 0 0 (by decide) rfl (by decide +kernel) rfl rfl dX5_does_179 ?_
        refine g_bipush cx dX5_does_182 kc_b64 ?_
        refine g_iload cx dX5_does_184 rfl ?_
        refine g_if_eq (tgt := 199) cx dX5_does_186 (by decide) (fun z22 => absurd z22 (by decide +kernel)) (fun z22 => ?_)
        have z22 := gn_ne0 z22
        refine g_iload_n cx dX5_does_189 rfl ?_
        refine g_bipush cx dX5_does_190 kc_b114 ?_
        refine g_icmp_ne (tgt := 199) cx dX5_does_192 (by decide) (fun z23 => ?_) (fun z23 => absurd z23 (by decide +kernel))
        have z23 := gn_ne (a := 103) (b := 114) z23
        refine g_aload_n cx dX5_does_199 rfl ?_
        refine g_get (C := RX5) (T := TX5) (N := 14) (ci := 5) cx hiX5 0 0 (by decide) rfl (by decide +kernel) rfl rfl dX5_does_200 ?_
        refine g_bipush cx dX5_does_203 kc_b64 ?_
        refine g_iald cx 1 rfl rfl (vp_in_nI (by omega) (by omega)) (congrArg _ (nI_clamp (by omega))) dX5_does_205 ?_
        refine g_iast (ws' := [(h, .inr (5, [.ref an, .ref ap_, .ref asl, .ref ah, .int (nI hN), .ref ax, .int (nI tyN), .int th, .int (nI at_), .ref atd, .int (nI tlN), .ref av, .ref ae, .int go])), (an, .inl (E.2.1 0, 67, .inl (upd (upd nw v (nI w9)) 64 ((upd nw v (nI w9)) 64)))), (ap_, .inl (E.2.1 0, 402, .inl ps)), (asl, .inl (E.2.1 0, 134, .inl sl)), (ah, .inl (E.2.1 0, 2, .inl hsl)), (ax, .inl (E.2.1 0, 80, .inl (fun j => nI (T j)))), (atd, .inl (E.2.1 0, 123, .inl td)), (av, .inl (E.2.1 0, 64, .inl va)), (ae, .inl (E.2.1 0, 64, .inl er))]) cx 1 rfl rfl (vp_in_nI (by omega) (by omega)) (by rw [nI_clamp (by omega)]; rfl) dX5_does_206 ?_
        refine g_ws (ws' := [(h, .inr (5, [.ref an, .ref ap_, .ref asl, .ref ah, .int (nI hN), .ref ax, .int (nI tyN), .int th, .int (nI at_), .ref atd, .int (nI tlN), .ref av, .ref ae, .int go])), (an, .inl (E.2.1 0, 67, .inl (upd nw v (nI w9)))), (ap_, .inl (E.2.1 0, 402, .inl ps)), (asl, .inl (E.2.1 0, 134, .inl sl)), (ah, .inl (E.2.1 0, 2, .inl hsl)), (ax, .inl (E.2.1 0, 80, .inl (fun j => nI (T j)))), (atd, .inl (E.2.1 0, 123, .inl td)), (av, .inl (E.2.1 0, 64, .inl va)), (ae, .inl (E.2.1 0, 64, .inl er))]) (by rw [upd_id]) ?_
        have hq : dsN nw 103 v w9 = (true, upd nw v (nI w9)) := by unfold dsN; rw [if_pos rfl]; unfold dsG; rw [if_pos ⟨by omega, z8⟩]
        refine g_iload cx dX5_does_207 rfl ?_
        exact g_zretE cx (by decide +kernel) dX5_does_209 (by rw [hq]) (by rw [hq]; first | exact gB_t | exact gB_f)
  ·
    refine g_aload_n cx dX5_does_0 rfl ?_
    refine g_get (C := RX5) (T := TX5) (N := 14) (ci := 5) cx hiX5 0 9 (by decide) rfl (by decide +kernel) rfl rfl dX5_does_1 ?_
    refine g_iload_n cx dX5_does_4 rfl ?_
    refine g_iald cx 6 rfl rfl (vp_in_nI (by omega) (by omega)) (congrArg _ (nI_clamp (by omega))) dX5_does_5 ?_
    refine g_top (show td pp = nI 105 from h0) ?_
    refine g_istore_n (lv' := [(2, .int (nI 105)), (0, .ref h), (1, .int (nI pp))]) cx dX5_does_6 rfl (by decide) rfl ?_
    refine g_aload_n cx dX5_does_7 rfl ?_
    refine g_get (C := RX5) (T := TX5) (N := 14) (ci := 5) cx hiX5 0 9 (by decide) rfl (by decide +kernel) rfl rfl dX5_does_8 ?_
    refine g_iload_n cx dX5_does_11 rfl ?_
    refine g_iconst cx dX5_does_12 kc_i1 ?_
    refine g_iadd cx dX5_does_13 ?_
    refine g_top (nI_add pp 1) ?_
    refine g_iald cx 6 rfl rfl (vp_in_nI (by omega) (by omega)) (congrArg _ (nI_clamp (by omega))) dX5_does_14 ?_
    refine g_top (show (td (pp + 1)) = nI v from h1) ?_
    refine g_istore_n (lv' := [(3, .int (nI v)), (2, .int (nI 105)), (0, .ref h), (1, .int (nI pp))]) cx dX5_does_15 rfl (by decide) rfl ?_
    refine g_aload_n cx dX5_does_16 rfl ?_
    refine g_get (C := RX5) (T := TX5) (N := 14) (ci := 5) cx hiX5 0 9 (by decide) rfl (by decide +kernel) rfl rfl dX5_does_17 ?_
    refine g_iload_n cx dX5_does_20 rfl ?_
    refine g_iconst cx dX5_does_21 kc_i2 ?_
    refine g_iadd cx dX5_does_22 ?_
    refine g_top (nI_add pp 2) ?_
    refine g_iald cx 6 rfl rfl (vp_in_nI (by omega) (by omega)) (congrArg _ (nI_clamp (by omega))) dX5_does_23 ?_
    refine g_top (show (td (pp + 2)) = nI w9 from h2) ?_
    refine g_istore (lv' := [(4, .int (nI w9)), (3, .int (nI v)), (2, .int (nI 105)), (0, .ref h), (1, .int (nI pp))]) cx dX5_does_24 (by decide) rfl ?_
    refine g_iload_n cx dX5_does_26 rfl ?_
    refine g_bipush cx dX5_does_27 kc_b103 ?_
    refine g_icmp_ne (tgt := 54) cx dX5_does_29 (by decide) (fun z24 => ?_) (fun z24 => absurd z24 (by decide +kernel))
    have z24 := gn_ne (a := 105) (b := 103) z24
    refine g_iload_n cx dX5_does_54 rfl ?_
    refine g_bipush cx dX5_does_55 kc_b116 ?_
    refine g_icmp_ne (tgt := 71) cx dX5_does_57 (by decide) (fun z25 => ?_) (fun z25 => absurd z25 (by decide +kernel))
    have z25 := gn_ne (a := 105) (b := 116) z25
    refine g_iload_n cx dX5_does_71 rfl ?_
    refine g_bipush cx dX5_does_72 kc_b114 ?_
    refine g_icmp_ne (tgt := 82) cx dX5_does_74 (by decide) (fun z26 => ?_) (fun z26 => absurd z26 (by decide +kernel))
    have z26 := gn_ne (a := 105) (b := 114) z26
    refine g_iconst cx dX5_does_82 kc_i1 ?_
    refine g_goto (tgt := 87) cx dX5_does_83 (by decide) ?_
    refine g_istore (lv' := [(5, .int (nI 1)), (4, .int (nI w9)), (3, .int (nI v)), (2, .int (nI 105)), (0, .ref h), (1, .int (nI pp))]) cx dX5_does_87 (by decide) rfl ?_
    refine g_iload cx dX5_does_89 rfl ?_
    refine g_if_eq (tgt := 108) cx dX5_does_91 (by decide) (fun z27 => absurd z27 (by decide +kernel)) (fun z27 => ?_)
    have z27 := gn_ne0 z27
    refine g_iload_n cx dX5_does_94 rfl ?_
    refine g_bipush cx dX5_does_95 kc_b103 ?_
    refine g_icmp_ne (tgt := 108) cx dX5_does_97 (by decide) (fun z28 => ?_) (fun z28 => absurd z28 (by decide +kernel))
    have z28 := gn_ne (a := 105) (b := 103) z28
    refine g_iload cx dX5_does_108 rfl ?_
    refine g_if_eq (tgt := 124) cx dX5_does_110 (by decide) (fun z29 => absurd z29 (by decide +kernel)) (fun z29 => ?_)
    have z29 := gn_ne0 z29
    refine g_iload_n cx dX5_does_113 rfl ?_
    refine g_bipush cx dX5_does_114 kc_b105 ?_
    refine g_icmp_ne (tgt := 124) cx dX5_does_116 (by decide) (fun z30 => absurd z30 (by decide +kernel)) (fun z30 => ?_)
    have z30 := gn_eq (a := 105) (b := 105) (by omega) (by omega) z30
    refine g_aload_n cx dX5_does_119 rfl ?_
    refine g_callV (ws' := [(h, .inr (5, [.ref an, .ref ap_, .ref asl, .ref ah, .int (nI hN), .ref ax, .int (nI tyN), .int th, .int (nI at_), .ref atd, .int (nI tlN), .ref av, .ref ae, .int go])), (an, .inl (E.2.1 0, 67, .inl (mU (fun x => nI 255 - x) nw 64))), (ap_, .inl (E.2.1 0, 402, .inl ps)), (asl, .inl (E.2.1 0, 134, .inl sl)), (ah, .inl (E.2.1 0, 2, .inl hsl)), (ax, .inl (E.2.1 0, 80, .inl (fun j => nI (T j)))), (atd, .inl (E.2.1 0, 123, .inl td)), (av, .inl (E.2.1 0, 64, .inl va)), (ae, .inl (E.2.1 0, 64, .inl er))]) (As := []) (rest := []) (n := 0) (T := TX5) (N := 14) (ci := 5) cx (c_X5_inverts l E h an ap_ asl ah ax atd av ae nw ps sl hsl td va er T hN tyN at_ tlN th go ) gX5_does_X5_inverts rfl (by decide +kernel) rfl rfl ⟨Nat.le_of_ble_eq_true rfl, Nat.le_of_ble_eq_true rfl⟩ ⟨Nat.zero_le _, Nat.zero_le _⟩ [0, 1, 2, 3, 4, 5, 6, 7, 8] 0 rfl rfl (by decide) rfl rfl rfl rfl (Nat.le_of_ble_eq_true rfl) dX5_does_120 ?_
    refine g_pop cx dX5_does_123 rfl ?_
    refine g_iload cx dX5_does_124 rfl ?_
    refine g_if_eq (tgt := 141) cx dX5_does_126 (by decide) (fun z31 => absurd z31 (by decide +kernel)) (fun z31 => ?_)
    have z31 := gn_ne0 z31
    refine g_iload_n cx dX5_does_129 rfl ?_
    refine g_bipush cx dX5_does_130 kc_b116 ?_
    refine g_icmp_ne (tgt := 141) cx dX5_does_132 (by decide) (fun z32 => ?_) (fun z32 => absurd z32 (by decide +kernel))
    have z32 := gn_ne (a := 105) (b := 116) z32
    refine g_aload_n cx dX5_does_141 rfl ?_
    refine g_get (C := RX5) (T := TX5) (N := 14) (ci := 5) cx hiX5 0 0 (by decide) rfl (by decide +kernel) rfl rfl dX5_does_142 ?_
    refine g_bipush cx dX5_does_145 kc_b66 ?_
    refine g_iload cx dX5_does_147 rfl ?_
    refine g_if_eq (tgt := 170) cx dX5_does_149 (by decide) (fun z33 => absurd z33 (by decide +kernel)) (fun z33 => ?_)
    have z33 := gn_ne0 z33
    refine g_iload_n cx dX5_does_152 rfl ?_
    refine g_bipush cx dX5_does_153 kc_b119 ?_
    refine g_icmp_ne (tgt := 170) cx dX5_does_155 (by decide) (fun z34 => ?_) (fun z34 => absurd z34 (by decide +kernel))
    have z34 := gn_ne (a := 105) (b := 119) z34
    refine g_aload_n cx dX5_does_170 rfl ?_
    refine g_get (C := RX5) (T := TX5) (N := 14) (ci := 5) cx hiX5 0 0 (by decide) rfl (by decide +kernel) rfl rfl dX5_does_171 ?_
    refine g_bipush cx dX5_does_174 kc_b66 ?_
    refine g_iald cx 1 rfl rfl (vp_in_nI (by omega) (by omega)) (congrArg _ (nI_clamp (by omega))) dX5_does_176 ?_
    refine g_iast (ws' := [(h, .inr (5, [.ref an, .ref ap_, .ref asl, .ref ah, .int (nI hN), .ref ax, .int (nI tyN), .int th, .int (nI at_), .ref atd, .int (nI tlN), .ref av, .ref ae, .int go])), (an, .inl (E.2.1 0, 67, .inl (upd (mU (fun x => nI 255 - x) nw 64) 66 ((mU (fun x => nI 255 - x) nw 64) 66)))), (ap_, .inl (E.2.1 0, 402, .inl ps)), (asl, .inl (E.2.1 0, 134, .inl sl)), (ah, .inl (E.2.1 0, 2, .inl hsl)), (ax, .inl (E.2.1 0, 80, .inl (fun j => nI (T j)))), (atd, .inl (E.2.1 0, 123, .inl td)), (av, .inl (E.2.1 0, 64, .inl va)), (ae, .inl (E.2.1 0, 64, .inl er))]) cx 1 rfl rfl (vp_in_nI (by omega) (by omega)) (by rw [nI_clamp (by omega)]; rfl) dX5_does_177 ?_
    refine g_ws (ws' := [(h, .inr (5, [.ref an, .ref ap_, .ref asl, .ref ah, .int (nI hN), .ref ax, .int (nI tyN), .int th, .int (nI at_), .ref atd, .int (nI tlN), .ref av, .ref ae, .int go])), (an, .inl (E.2.1 0, 67, .inl (mU (fun x => nI 255 - x) nw 64))), (ap_, .inl (E.2.1 0, 402, .inl ps)), (asl, .inl (E.2.1 0, 134, .inl sl)), (ah, .inl (E.2.1 0, 2, .inl hsl)), (ax, .inl (E.2.1 0, 80, .inl (fun j => nI (T j)))), (atd, .inl (E.2.1 0, 123, .inl td)), (av, .inl (E.2.1 0, 64, .inl va)), (ae, .inl (E.2.1 0, 64, .inl er))]) (by rw [upd_id]) ?_
    refine g_aload_n cx dX5_does_178 rfl ?_
    refine g_get (C := RX5) (T := TX5) (N := 14) (ci := 5) cx hiX5 0 0 (by decide) rfl (by decide +kernel) rfl rfl dX5_does_179 ?_
    refine g_bipush cx dX5_does_182 kc_b64 ?_
    refine g_iload cx dX5_does_184 rfl ?_
    refine g_if_eq (tgt := 199) cx dX5_does_186 (by decide) (fun z35 => absurd z35 (by decide +kernel)) (fun z35 => ?_)
    have z35 := gn_ne0 z35
    refine g_iload_n cx dX5_does_189 rfl ?_
    refine g_bipush cx dX5_does_190 kc_b114 ?_
    refine g_icmp_ne (tgt := 199) cx dX5_does_192 (by decide) (fun z36 => ?_) (fun z36 => absurd z36 (by decide +kernel))
    have z36 := gn_ne (a := 105) (b := 114) z36
    refine g_aload_n cx dX5_does_199 rfl ?_
    refine g_get (C := RX5) (T := TX5) (N := 14) (ci := 5) cx hiX5 0 0 (by decide) rfl (by decide +kernel) rfl rfl dX5_does_200 ?_
    refine g_bipush cx dX5_does_203 kc_b64 ?_
    refine g_iald cx 1 rfl rfl (vp_in_nI (by omega) (by omega)) (congrArg _ (nI_clamp (by omega))) dX5_does_205 ?_
    refine g_iast (ws' := [(h, .inr (5, [.ref an, .ref ap_, .ref asl, .ref ah, .int (nI hN), .ref ax, .int (nI tyN), .int th, .int (nI at_), .ref atd, .int (nI tlN), .ref av, .ref ae, .int go])), (an, .inl (E.2.1 0, 67, .inl (upd (mU (fun x => nI 255 - x) nw 64) 64 ((mU (fun x => nI 255 - x) nw 64) 64)))), (ap_, .inl (E.2.1 0, 402, .inl ps)), (asl, .inl (E.2.1 0, 134, .inl sl)), (ah, .inl (E.2.1 0, 2, .inl hsl)), (ax, .inl (E.2.1 0, 80, .inl (fun j => nI (T j)))), (atd, .inl (E.2.1 0, 123, .inl td)), (av, .inl (E.2.1 0, 64, .inl va)), (ae, .inl (E.2.1 0, 64, .inl er))]) cx 1 rfl rfl (vp_in_nI (by omega) (by omega)) (by rw [nI_clamp (by omega)]; rfl) dX5_does_206 ?_
    refine g_ws (ws' := [(h, .inr (5, [.ref an, .ref ap_, .ref asl, .ref ah, .int (nI hN), .ref ax, .int (nI tyN), .int th, .int (nI at_), .ref atd, .int (nI tlN), .ref av, .ref ae, .int go])), (an, .inl (E.2.1 0, 67, .inl (mU (fun x => nI 255 - x) nw 64))), (ap_, .inl (E.2.1 0, 402, .inl ps)), (asl, .inl (E.2.1 0, 134, .inl sl)), (ah, .inl (E.2.1 0, 2, .inl hsl)), (ax, .inl (E.2.1 0, 80, .inl (fun j => nI (T j)))), (atd, .inl (E.2.1 0, 123, .inl td)), (av, .inl (E.2.1 0, 64, .inl va)), (ae, .inl (E.2.1 0, 64, .inl er))]) (by rw [upd_id]) ?_
    have hq : dsN nw 105 v w9 = (true, mU (fun x => nI 255 - x) nw 64) := by unfold dsN; rw [if_neg (by decide), if_pos rfl]
    refine g_iload cx dX5_does_207 rfl ?_
    exact g_zretE cx (by decide +kernel) dX5_does_209 (by rw [hq]) (by rw [hq]; first | exact gB_t | exact gB_f)
  ·
    refine g_aload_n cx dX5_does_0 rfl ?_
    refine g_get (C := RX5) (T := TX5) (N := 14) (ci := 5) cx hiX5 0 9 (by decide) rfl (by decide +kernel) rfl rfl dX5_does_1 ?_
    refine g_iload_n cx dX5_does_4 rfl ?_
    refine g_iald cx 6 rfl rfl (vp_in_nI (by omega) (by omega)) (congrArg _ (nI_clamp (by omega))) dX5_does_5 ?_
    refine g_top (show td pp = nI 116 from h0) ?_
    refine g_istore_n (lv' := [(2, .int (nI 116)), (0, .ref h), (1, .int (nI pp))]) cx dX5_does_6 rfl (by decide) rfl ?_
    refine g_aload_n cx dX5_does_7 rfl ?_
    refine g_get (C := RX5) (T := TX5) (N := 14) (ci := 5) cx hiX5 0 9 (by decide) rfl (by decide +kernel) rfl rfl dX5_does_8 ?_
    refine g_iload_n cx dX5_does_11 rfl ?_
    refine g_iconst cx dX5_does_12 kc_i1 ?_
    refine g_iadd cx dX5_does_13 ?_
    refine g_top (nI_add pp 1) ?_
    refine g_iald cx 6 rfl rfl (vp_in_nI (by omega) (by omega)) (congrArg _ (nI_clamp (by omega))) dX5_does_14 ?_
    refine g_top (show (td (pp + 1)) = nI v from h1) ?_
    refine g_istore_n (lv' := [(3, .int (nI v)), (2, .int (nI 116)), (0, .ref h), (1, .int (nI pp))]) cx dX5_does_15 rfl (by decide) rfl ?_
    refine g_aload_n cx dX5_does_16 rfl ?_
    refine g_get (C := RX5) (T := TX5) (N := 14) (ci := 5) cx hiX5 0 9 (by decide) rfl (by decide +kernel) rfl rfl dX5_does_17 ?_
    refine g_iload_n cx dX5_does_20 rfl ?_
    refine g_iconst cx dX5_does_21 kc_i2 ?_
    refine g_iadd cx dX5_does_22 ?_
    refine g_top (nI_add pp 2) ?_
    refine g_iald cx 6 rfl rfl (vp_in_nI (by omega) (by omega)) (congrArg _ (nI_clamp (by omega))) dX5_does_23 ?_
    refine g_top (show (td (pp + 2)) = nI w9 from h2) ?_
    refine g_istore (lv' := [(4, .int (nI w9)), (3, .int (nI v)), (2, .int (nI 116)), (0, .ref h), (1, .int (nI pp))]) cx dX5_does_24 (by decide) rfl ?_
    refine g_iload_n cx dX5_does_26 rfl ?_
    refine g_bipush cx dX5_does_27 kc_b103 ?_
    refine g_icmp_ne (tgt := 54) cx dX5_does_29 (by decide) (fun z37 => ?_) (fun z37 => absurd z37 (by decide +kernel))
    have z37 := gn_ne (a := 116) (b := 103) z37
    refine g_iload_n cx dX5_does_54 rfl ?_
    refine g_bipush cx dX5_does_55 kc_b116 ?_
    refine g_icmp_ne (tgt := 71) cx dX5_does_57 (by decide) (fun z38 => absurd z38 (by decide +kernel)) (fun z38 => ?_)
    have z38 := gn_eq (a := 116) (b := 116) (by omega) (by omega) z38
    refine g_iload_n cx dX5_does_60 rfl ?_
    refine g_iconst cx dX5_does_61 kc_i1 ?_
    refine g_sipush cx dX5_does_62 kc_s255 ?_
    refine g_callS (ws' := [(h, .inr (5, [.ref an, .ref ap_, .ref asl, .ref ah, .int (nI hN), .ref ax, .int (nI tyN), .int th, .int (nI at_), .ref atd, .int (nI tlN), .ref av, .ref ae, .int go])), (an, .inl (E.2.1 0, 67, .inl nw)), (ap_, .inl (E.2.1 0, 402, .inl ps)), (asl, .inl (E.2.1 0, 134, .inl sl)), (ah, .inl (E.2.1 0, 2, .inl hsl)), (ax, .inl (E.2.1 0, 80, .inl (fun j => nI (T j)))), (atd, .inl (E.2.1 0, 123, .inl td)), (av, .inl (E.2.1 0, 64, .inl va)), (ae, .inl (E.2.1 0, 64, .inl er))]) (As := [.int (nI v), .int (nI 1), .int (nI 255)]) (rest := []) (n := 3) cx (c_X5_in l E (nI v) 1 255 (by omega) (by omega)) gX5_does_X5_in rfl (by decide +kernel) rfl rfl ⟨Nat.le_of_ble_eq_true rfl, Nat.le_of_ble_eq_true rfl⟩ ⟨Nat.zero_le _, Nat.zero_le _⟩ [] (by decide) rfl rfl rfl rfl (Nat.le_of_ble_eq_true rfl) dX5_does_65 ?_
    by_cases hb : bR (nI v) 1 255 = true
    ·
      refine g_top (show gB (bR (nI v) 1 255) = nI 1 from by rw [hb]; decide +kernel) ?_
      refine g_goto (tgt := 87) cx dX5_does_68 (by decide) ?_
      refine g_istore (lv' := [(5, .int (nI 1)), (4, .int (nI w9)), (3, .int (nI v)), (2, .int (nI 116)), (0, .ref h), (1, .int (nI pp))]) cx dX5_does_87 (by decide) rfl ?_
      refine g_iload cx dX5_does_89 rfl ?_
      refine g_if_eq (tgt := 108) cx dX5_does_91 (by decide) (fun z39 => absurd z39 (by decide +kernel)) (fun z39 => ?_)
      have z39 := gn_ne0 z39
      refine g_iload_n cx dX5_does_94 rfl ?_
      refine g_bipush cx dX5_does_95 kc_b103 ?_
      refine g_icmp_ne (tgt := 108) cx dX5_does_97 (by decide) (fun z40 => ?_) (fun z40 => absurd z40 (by decide +kernel))
      have z40 := gn_ne (a := 116) (b := 103) z40
      refine g_iload cx dX5_does_108 rfl ?_
      refine g_if_eq (tgt := 124) cx dX5_does_110 (by decide) (fun z41 => absurd z41 (by decide +kernel)) (fun z41 => ?_)
      have z41 := gn_ne0 z41
      refine g_iload_n cx dX5_does_113 rfl ?_
      refine g_bipush cx dX5_does_114 kc_b105 ?_
      refine g_icmp_ne (tgt := 124) cx dX5_does_116 (by decide) (fun z42 => ?_) (fun z42 => absurd z42 (by decide +kernel))
      have z42 := gn_ne (a := 116) (b := 105) z42
      refine g_iload cx dX5_does_124 rfl ?_
      refine g_if_eq (tgt := 141) cx dX5_does_126 (by decide) (fun z43 => absurd z43 (by decide +kernel)) (fun z43 => ?_)
      have z43 := gn_ne0 z43
      refine g_iload_n cx dX5_does_129 rfl ?_
      refine g_bipush cx dX5_does_130 kc_b116 ?_
      refine g_icmp_ne (tgt := 141) cx dX5_does_132 (by decide) (fun z44 => absurd z44 (by decide +kernel)) (fun z44 => ?_)
      have z44 := gn_eq (a := 116) (b := 116) (by omega) (by omega) z44
      refine g_aload_n cx dX5_does_135 rfl ?_
      refine g_iload_n cx dX5_does_136 rfl ?_
      refine g_callV (ws' := [(h, .inr (5, [.ref an, .ref ap_, .ref asl, .ref ah, .int (nI hN), .ref ax, .int (nI tyN), .int th, .int (nI at_), .ref atd, .int (nI tlN), .ref av, .ref ae, .int go])), (an, .inl (E.2.1 0, 67, .inl (mU (thw (nI v)) nw 64))), (ap_, .inl (E.2.1 0, 402, .inl ps)), (asl, .inl (E.2.1 0, 134, .inl sl)), (ah, .inl (E.2.1 0, 2, .inl hsl)), (ax, .inl (E.2.1 0, 80, .inl (fun j => nI (T j)))), (atd, .inl (E.2.1 0, 123, .inl td)), (av, .inl (E.2.1 0, 64, .inl va)), (ae, .inl (E.2.1 0, 64, .inl er))]) (As := [.int (nI v)]) (rest := []) (n := 1) (T := TX5) (N := 14) (ci := 5) cx (c_X5_thaws l E h an ap_ asl ah ax atd av ae nw ps sl hsl td va er T hN tyN at_ tlN th go (nI v) ) gX5_does_X5_thaws rfl (by decide +kernel) rfl rfl ⟨Nat.le_of_ble_eq_true rfl, Nat.le_of_ble_eq_true rfl⟩ ⟨Nat.zero_le _, Nat.zero_le _⟩ [0, 1, 2, 3, 4, 5, 6, 7, 8] 0 rfl rfl (by decide) rfl rfl rfl rfl (Nat.le_of_ble_eq_true rfl) dX5_does_137 ?_
      refine g_pop cx dX5_does_140 rfl ?_
      refine g_aload_n cx dX5_does_141 rfl ?_
      refine g_get (C := RX5) (T := TX5) (N := 14) (ci := 5) cx hiX5 0 0 (by decide) rfl (by decide +kernel) rfl rfl dX5_does_142 ?_
      refine g_bipush cx dX5_does_145 kc_b66 ?_
      refine g_iload cx dX5_does_147 rfl ?_
      refine g_if_eq (tgt := 170) cx dX5_does_149 (by decide) (fun z45 => absurd z45 (by decide +kernel)) (fun z45 => ?_)
      have z45 := gn_ne0 z45
      refine g_iload_n cx dX5_does_152 rfl ?_
      refine g_bipush cx dX5_does_153 kc_b119 ?_
      refine g_icmp_ne (tgt := 170) cx dX5_does_155 (by decide) (fun z46 => ?_) (fun z46 => absurd z46 (by decide +kernel))
      have z46 := gn_ne (a := 116) (b := 119) z46
      refine g_aload_n cx dX5_does_170 rfl ?_
      refine g_get (C := RX5) (T := TX5) (N := 14) (ci := 5) cx hiX5 0 0 (by decide) rfl (by decide +kernel) rfl rfl dX5_does_171 ?_
      refine g_bipush cx dX5_does_174 kc_b66 ?_
      refine g_iald cx 1 rfl rfl (vp_in_nI (by omega) (by omega)) (congrArg _ (nI_clamp (by omega))) dX5_does_176 ?_
      refine g_iast (ws' := [(h, .inr (5, [.ref an, .ref ap_, .ref asl, .ref ah, .int (nI hN), .ref ax, .int (nI tyN), .int th, .int (nI at_), .ref atd, .int (nI tlN), .ref av, .ref ae, .int go])), (an, .inl (E.2.1 0, 67, .inl (upd (mU (thw (nI v)) nw 64) 66 ((mU (thw (nI v)) nw 64) 66)))), (ap_, .inl (E.2.1 0, 402, .inl ps)), (asl, .inl (E.2.1 0, 134, .inl sl)), (ah, .inl (E.2.1 0, 2, .inl hsl)), (ax, .inl (E.2.1 0, 80, .inl (fun j => nI (T j)))), (atd, .inl (E.2.1 0, 123, .inl td)), (av, .inl (E.2.1 0, 64, .inl va)), (ae, .inl (E.2.1 0, 64, .inl er))]) cx 1 rfl rfl (vp_in_nI (by omega) (by omega)) (by rw [nI_clamp (by omega)]; rfl) dX5_does_177 ?_
      refine g_ws (ws' := [(h, .inr (5, [.ref an, .ref ap_, .ref asl, .ref ah, .int (nI hN), .ref ax, .int (nI tyN), .int th, .int (nI at_), .ref atd, .int (nI tlN), .ref av, .ref ae, .int go])), (an, .inl (E.2.1 0, 67, .inl (mU (thw (nI v)) nw 64))), (ap_, .inl (E.2.1 0, 402, .inl ps)), (asl, .inl (E.2.1 0, 134, .inl sl)), (ah, .inl (E.2.1 0, 2, .inl hsl)), (ax, .inl (E.2.1 0, 80, .inl (fun j => nI (T j)))), (atd, .inl (E.2.1 0, 123, .inl td)), (av, .inl (E.2.1 0, 64, .inl va)), (ae, .inl (E.2.1 0, 64, .inl er))]) (by rw [upd_id]) ?_
      refine g_aload_n cx dX5_does_178 rfl ?_
      refine g_get (C := RX5) (T := TX5) (N := 14) (ci := 5) cx hiX5 0 0 (by decide) rfl (by decide +kernel) rfl rfl dX5_does_179 ?_
      refine g_bipush cx dX5_does_182 kc_b64 ?_
      refine g_iload cx dX5_does_184 rfl ?_
      refine g_if_eq (tgt := 199) cx dX5_does_186 (by decide) (fun z47 => absurd z47 (by decide +kernel)) (fun z47 => ?_)
      have z47 := gn_ne0 z47
      refine g_iload_n cx dX5_does_189 rfl ?_
      refine g_bipush cx dX5_does_190 kc_b114 ?_
      refine g_icmp_ne (tgt := 199) cx dX5_does_192 (by decide) (fun z48 => ?_) (fun z48 => absurd z48 (by decide +kernel))
      have z48 := gn_ne (a := 116) (b := 114) z48
      refine g_aload_n cx dX5_does_199 rfl ?_
      refine g_get (C := RX5) (T := TX5) (N := 14) (ci := 5) cx hiX5 0 0 (by decide) rfl (by decide +kernel) rfl rfl dX5_does_200 ?_
      refine g_bipush cx dX5_does_203 kc_b64 ?_
      refine g_iald cx 1 rfl rfl (vp_in_nI (by omega) (by omega)) (congrArg _ (nI_clamp (by omega))) dX5_does_205 ?_
      refine g_iast (ws' := [(h, .inr (5, [.ref an, .ref ap_, .ref asl, .ref ah, .int (nI hN), .ref ax, .int (nI tyN), .int th, .int (nI at_), .ref atd, .int (nI tlN), .ref av, .ref ae, .int go])), (an, .inl (E.2.1 0, 67, .inl (upd (mU (thw (nI v)) nw 64) 64 ((mU (thw (nI v)) nw 64) 64)))), (ap_, .inl (E.2.1 0, 402, .inl ps)), (asl, .inl (E.2.1 0, 134, .inl sl)), (ah, .inl (E.2.1 0, 2, .inl hsl)), (ax, .inl (E.2.1 0, 80, .inl (fun j => nI (T j)))), (atd, .inl (E.2.1 0, 123, .inl td)), (av, .inl (E.2.1 0, 64, .inl va)), (ae, .inl (E.2.1 0, 64, .inl er))]) cx 1 rfl rfl (vp_in_nI (by omega) (by omega)) (by rw [nI_clamp (by omega)]; rfl) dX5_does_206 ?_
      refine g_ws (ws' := [(h, .inr (5, [.ref an, .ref ap_, .ref asl, .ref ah, .int (nI hN), .ref ax, .int (nI tyN), .int th, .int (nI at_), .ref atd, .int (nI tlN), .ref av, .ref ae, .int go])), (an, .inl (E.2.1 0, 67, .inl (mU (thw (nI v)) nw 64))), (ap_, .inl (E.2.1 0, 402, .inl ps)), (asl, .inl (E.2.1 0, 134, .inl sl)), (ah, .inl (E.2.1 0, 2, .inl hsl)), (ax, .inl (E.2.1 0, 80, .inl (fun j => nI (T j)))), (atd, .inl (E.2.1 0, 123, .inl td)), (av, .inl (E.2.1 0, 64, .inl va)), (ae, .inl (E.2.1 0, 64, .inl er))]) (by rw [upd_id]) ?_
      have hq : dsN nw 116 v w9 = (true, mU (thw (nI v)) nw 64) := by unfold dsN; rw [if_neg (by decide), if_neg (by decide), if_pos rfl]; unfold dsT; rw [if_pos hb]
      refine g_iload cx dX5_does_207 rfl ?_
      exact g_zretE cx (by decide +kernel) dX5_does_209 (by rw [hq]) (by rw [hq]; first | exact gB_t | exact gB_f)
    ·
      refine g_top (show gB (bR (nI v) 1 255) = nI 0 from by rw [Bool.eq_false_iff.mpr hb]; decide +kernel) ?_
      refine g_goto (tgt := 87) cx dX5_does_68 (by decide) ?_
      refine g_istore (lv' := [(5, .int (nI 0)), (4, .int (nI w9)), (3, .int (nI v)), (2, .int (nI 116)), (0, .ref h), (1, .int (nI pp))]) cx dX5_does_87 (by decide) rfl ?_
      refine g_iload cx dX5_does_89 rfl ?_
      refine g_if_eq (tgt := 108) cx dX5_does_91 (by decide) (fun z49 => ?_) (fun z49 => absurd z49 (by decide +kernel))
      have z49 := gn_eq0 (by omega) z49
      refine g_iload cx dX5_does_108 rfl ?_
      refine g_if_eq (tgt := 124) cx dX5_does_110 (by decide) (fun z50 => ?_) (fun z50 => absurd z50 (by decide +kernel))
      have z50 := gn_eq0 (by omega) z50
      refine g_iload cx dX5_does_124 rfl ?_
      refine g_if_eq (tgt := 141) cx dX5_does_126 (by decide) (fun z51 => ?_) (fun z51 => absurd z51 (by decide +kernel))
      have z51 := gn_eq0 (by omega) z51
      refine g_aload_n cx dX5_does_141 rfl ?_
      refine g_get (C := RX5) (T := TX5) (N := 14) (ci := 5) cx hiX5 0 0 (by decide) rfl (by decide +kernel) rfl rfl dX5_does_142 ?_
      refine g_bipush cx dX5_does_145 kc_b66 ?_
      refine g_iload cx dX5_does_147 rfl ?_
      refine g_if_eq (tgt := 170) cx dX5_does_149 (by decide) (fun z52 => ?_) (fun z52 => absurd z52 (by decide +kernel))
      have z52 := gn_eq0 (by omega) z52
      refine g_aload_n cx dX5_does_170 rfl ?_
      refine g_get (C := RX5) (T := TX5) (N := 14) (ci := 5) cx hiX5 0 0 (by decide) rfl (by decide +kernel) rfl rfl dX5_does_171 ?_
      refine g_bipush cx dX5_does_174 kc_b66 ?_
      refine g_iald cx 1 rfl rfl (vp_in_nI (by omega) (by omega)) (congrArg _ (nI_clamp (by omega))) dX5_does_176 ?_
      refine g_iast (ws' := [(h, .inr (5, [.ref an, .ref ap_, .ref asl, .ref ah, .int (nI hN), .ref ax, .int (nI tyN), .int th, .int (nI at_), .ref atd, .int (nI tlN), .ref av, .ref ae, .int go])), (an, .inl (E.2.1 0, 67, .inl (upd nw 66 (nw 66)))), (ap_, .inl (E.2.1 0, 402, .inl ps)), (asl, .inl (E.2.1 0, 134, .inl sl)), (ah, .inl (E.2.1 0, 2, .inl hsl)), (ax, .inl (E.2.1 0, 80, .inl (fun j => nI (T j)))), (atd, .inl (E.2.1 0, 123, .inl td)), (av, .inl (E.2.1 0, 64, .inl va)), (ae, .inl (E.2.1 0, 64, .inl er))]) cx 1 rfl rfl (vp_in_nI (by omega) (by omega)) (by rw [nI_clamp (by omega)]; rfl) dX5_does_177 ?_
      refine g_ws (ws' := [(h, .inr (5, [.ref an, .ref ap_, .ref asl, .ref ah, .int (nI hN), .ref ax, .int (nI tyN), .int th, .int (nI at_), .ref atd, .int (nI tlN), .ref av, .ref ae, .int go])), (an, .inl (E.2.1 0, 67, .inl nw)), (ap_, .inl (E.2.1 0, 402, .inl ps)), (asl, .inl (E.2.1 0, 134, .inl sl)), (ah, .inl (E.2.1 0, 2, .inl hsl)), (ax, .inl (E.2.1 0, 80, .inl (fun j => nI (T j)))), (atd, .inl (E.2.1 0, 123, .inl td)), (av, .inl (E.2.1 0, 64, .inl va)), (ae, .inl (E.2.1 0, 64, .inl er))]) (by rw [upd_id]) ?_
      refine g_aload_n cx dX5_does_178 rfl ?_
      refine g_get (C := RX5) (T := TX5) (N := 14) (ci := 5) cx hiX5 0 0 (by decide) rfl (by decide +kernel) rfl rfl dX5_does_179 ?_
      refine g_bipush cx dX5_does_182 kc_b64 ?_
      refine g_iload cx dX5_does_184 rfl ?_
      refine g_if_eq (tgt := 199) cx dX5_does_186 (by decide) (fun z53 => ?_) (fun z53 => absurd z53 (by decide +kernel))
      have z53 := gn_eq0 (by omega) z53
      refine g_aload_n cx dX5_does_199 rfl ?_
      refine g_get (C := RX5) (T := TX5) (N := 14) (ci := 5) cx hiX5 0 0 (by decide) rfl (by decide +kernel) rfl rfl dX5_does_200 ?_
      refine g_bipush cx dX5_does_203 kc_b64 ?_
      refine g_iald cx 1 rfl rfl (vp_in_nI (by omega) (by omega)) (congrArg _ (nI_clamp (by omega))) dX5_does_205 ?_
      refine g_iast (ws' := [(h, .inr (5, [.ref an, .ref ap_, .ref asl, .ref ah, .int (nI hN), .ref ax, .int (nI tyN), .int th, .int (nI at_), .ref atd, .int (nI tlN), .ref av, .ref ae, .int go])), (an, .inl (E.2.1 0, 67, .inl (upd nw 64 (nw 64)))), (ap_, .inl (E.2.1 0, 402, .inl ps)), (asl, .inl (E.2.1 0, 134, .inl sl)), (ah, .inl (E.2.1 0, 2, .inl hsl)), (ax, .inl (E.2.1 0, 80, .inl (fun j => nI (T j)))), (atd, .inl (E.2.1 0, 123, .inl td)), (av, .inl (E.2.1 0, 64, .inl va)), (ae, .inl (E.2.1 0, 64, .inl er))]) cx 1 rfl rfl (vp_in_nI (by omega) (by omega)) (by rw [nI_clamp (by omega)]; rfl) dX5_does_206 ?_
      refine g_ws (ws' := [(h, .inr (5, [.ref an, .ref ap_, .ref asl, .ref ah, .int (nI hN), .ref ax, .int (nI tyN), .int th, .int (nI at_), .ref atd, .int (nI tlN), .ref av, .ref ae, .int go])), (an, .inl (E.2.1 0, 67, .inl nw)), (ap_, .inl (E.2.1 0, 402, .inl ps)), (asl, .inl (E.2.1 0, 134, .inl sl)), (ah, .inl (E.2.1 0, 2, .inl hsl)), (ax, .inl (E.2.1 0, 80, .inl (fun j => nI (T j)))), (atd, .inl (E.2.1 0, 123, .inl td)), (av, .inl (E.2.1 0, 64, .inl va)), (ae, .inl (E.2.1 0, 64, .inl er))]) (by rw [upd_id]) ?_
      have hq : dsN nw 116 v w9 = (false, nw) := by unfold dsN; rw [if_neg (by decide), if_neg (by decide), if_pos rfl]; unfold dsT; rw [if_neg hb]
      refine g_iload cx dX5_does_207 rfl ?_
      exact g_zretE cx (by decide +kernel) dX5_does_209 (by rw [hq]) (by rw [hq]; first | exact gB_t | exact gB_f)
  ·
    refine g_aload_n cx dX5_does_0 rfl ?_
    refine g_get (C := RX5) (T := TX5) (N := 14) (ci := 5) cx hiX5 0 9 (by decide) rfl (by decide +kernel) rfl rfl dX5_does_1 ?_
    refine g_iload_n cx dX5_does_4 rfl ?_
    refine g_iald cx 6 rfl rfl (vp_in_nI (by omega) (by omega)) (congrArg _ (nI_clamp (by omega))) dX5_does_5 ?_
    refine g_top (show td pp = nI 119 from h0) ?_
    refine g_istore_n (lv' := [(2, .int (nI 119)), (0, .ref h), (1, .int (nI pp))]) cx dX5_does_6 rfl (by decide) rfl ?_
    refine g_aload_n cx dX5_does_7 rfl ?_
    refine g_get (C := RX5) (T := TX5) (N := 14) (ci := 5) cx hiX5 0 9 (by decide) rfl (by decide +kernel) rfl rfl dX5_does_8 ?_
    refine g_iload_n cx dX5_does_11 rfl ?_
    refine g_iconst cx dX5_does_12 kc_i1 ?_
    refine g_iadd cx dX5_does_13 ?_
    refine g_top (nI_add pp 1) ?_
    refine g_iald cx 6 rfl rfl (vp_in_nI (by omega) (by omega)) (congrArg _ (nI_clamp (by omega))) dX5_does_14 ?_
    refine g_top (show (td (pp + 1)) = nI v from h1) ?_
    refine g_istore_n (lv' := [(3, .int (nI v)), (2, .int (nI 119)), (0, .ref h), (1, .int (nI pp))]) cx dX5_does_15 rfl (by decide) rfl ?_
    refine g_aload_n cx dX5_does_16 rfl ?_
    refine g_get (C := RX5) (T := TX5) (N := 14) (ci := 5) cx hiX5 0 9 (by decide) rfl (by decide +kernel) rfl rfl dX5_does_17 ?_
    refine g_iload_n cx dX5_does_20 rfl ?_
    refine g_iconst cx dX5_does_21 kc_i2 ?_
    refine g_iadd cx dX5_does_22 ?_
    refine g_top (nI_add pp 2) ?_
    refine g_iald cx 6 rfl rfl (vp_in_nI (by omega) (by omega)) (congrArg _ (nI_clamp (by omega))) dX5_does_23 ?_
    refine g_top (show (td (pp + 2)) = nI w9 from h2) ?_
    refine g_istore (lv' := [(4, .int (nI w9)), (3, .int (nI v)), (2, .int (nI 119)), (0, .ref h), (1, .int (nI pp))]) cx dX5_does_24 (by decide) rfl ?_
    refine g_iload_n cx dX5_does_26 rfl ?_
    refine g_bipush cx dX5_does_27 kc_b103 ?_
    refine g_icmp_ne (tgt := 54) cx dX5_does_29 (by decide) (fun z54 => ?_) (fun z54 => absurd z54 (by decide +kernel))
    have z54 := gn_ne (a := 119) (b := 103) z54
    refine g_iload_n cx dX5_does_54 rfl ?_
    refine g_bipush cx dX5_does_55 kc_b116 ?_
    refine g_icmp_ne (tgt := 71) cx dX5_does_57 (by decide) (fun z55 => ?_) (fun z55 => absurd z55 (by decide +kernel))
    have z55 := gn_ne (a := 119) (b := 116) z55
    refine g_iload_n cx dX5_does_71 rfl ?_
    refine g_bipush cx dX5_does_72 kc_b114 ?_
    refine g_icmp_ne (tgt := 82) cx dX5_does_74 (by decide) (fun z56 => ?_) (fun z56 => absurd z56 (by decide +kernel))
    have z56 := gn_ne (a := 119) (b := 114) z56
    refine g_iconst cx dX5_does_82 kc_i1 ?_
    refine g_goto (tgt := 87) cx dX5_does_83 (by decide) ?_
    refine g_istore (lv' := [(5, .int (nI 1)), (4, .int (nI w9)), (3, .int (nI v)), (2, .int (nI 119)), (0, .ref h), (1, .int (nI pp))]) cx dX5_does_87 (by decide) rfl ?_
    refine g_iload cx dX5_does_89 rfl ?_
    refine g_if_eq (tgt := 108) cx dX5_does_91 (by decide) (fun z57 => absurd z57 (by decide +kernel)) (fun z57 => ?_)
    have z57 := gn_ne0 z57
    refine g_iload_n cx dX5_does_94 rfl ?_
    refine g_bipush cx dX5_does_95 kc_b103 ?_
    refine g_icmp_ne (tgt := 108) cx dX5_does_97 (by decide) (fun z58 => ?_) (fun z58 => absurd z58 (by decide +kernel))
    have z58 := gn_ne (a := 119) (b := 103) z58
    refine g_iload cx dX5_does_108 rfl ?_
    refine g_if_eq (tgt := 124) cx dX5_does_110 (by decide) (fun z59 => absurd z59 (by decide +kernel)) (fun z59 => ?_)
    have z59 := gn_ne0 z59
    refine g_iload_n cx dX5_does_113 rfl ?_
    refine g_bipush cx dX5_does_114 kc_b105 ?_
    refine g_icmp_ne (tgt := 124) cx dX5_does_116 (by decide) (fun z60 => ?_) (fun z60 => absurd z60 (by decide +kernel))
    have z60 := gn_ne (a := 119) (b := 105) z60
    refine g_iload cx dX5_does_124 rfl ?_
    refine g_if_eq (tgt := 141) cx dX5_does_126 (by decide) (fun z61 => absurd z61 (by decide +kernel)) (fun z61 => ?_)
    have z61 := gn_ne0 z61
    refine g_iload_n cx dX5_does_129 rfl ?_
    refine g_bipush cx dX5_does_130 kc_b116 ?_
    refine g_icmp_ne (tgt := 141) cx dX5_does_132 (by decide) (fun z62 => ?_) (fun z62 => absurd z62 (by decide +kernel))
    have z62 := gn_ne (a := 119) (b := 116) z62
    refine g_aload_n cx dX5_does_141 rfl ?_
    refine g_get (C := RX5) (T := TX5) (N := 14) (ci := 5) cx hiX5 0 0 (by decide) rfl (by decide +kernel) rfl rfl dX5_does_142 ?_
    refine g_bipush cx dX5_does_145 kc_b66 ?_
    refine g_iload cx dX5_does_147 rfl ?_
    refine g_if_eq (tgt := 170) cx dX5_does_149 (by decide) (fun z63 => absurd z63 (by decide +kernel)) (fun z63 => ?_)
    have z63 := gn_ne0 z63
    refine g_iload_n cx dX5_does_152 rfl ?_
    refine g_bipush cx dX5_does_153 kc_b119 ?_
    refine g_icmp_ne (tgt := 170) cx dX5_does_155 (by decide) (fun z64 => absurd z64 (by decide +kernel)) (fun z64 => ?_)
    have z64 := gn_eq (a := 119) (b := 119) (by omega) (by omega) z64
    refine g_iconst cx dX5_does_158 kc_i1 ?_
    refine g_aload_n cx dX5_does_159 rfl ?_
    refine g_get (C := RX5) (T := TX5) (N := 14) (ci := 5) cx hiX5 0 0 (by decide) rfl (by decide +kernel) rfl rfl dX5_does_160 ?_
    refine g_bipush cx dX5_does_163 kc_b66 ?_
    refine g_iald cx 1 rfl rfl (vp_in_nI (by omega) (by omega)) (congrArg _ (nI_clamp (by omega))) dX5_does_165 ?_
    refine g_isub cx dX5_does_166 ?_
    refine g_goto (tgt := 177) cx dX5_does_167 (by decide) ?_
    refine g_iast (ws' := [(h, .inr (5, [.ref an, .ref ap_, .ref asl, .ref ah, .int (nI hN), .ref ax, .int (nI tyN), .int th, .int (nI at_), .ref atd, .int (nI tlN), .ref av, .ref ae, .int go])), (an, .inl (E.2.1 0, 67, .inl (upd nw 66 ((nI 1) - (nw 66))))), (ap_, .inl (E.2.1 0, 402, .inl ps)), (asl, .inl (E.2.1 0, 134, .inl sl)), (ah, .inl (E.2.1 0, 2, .inl hsl)), (ax, .inl (E.2.1 0, 80, .inl (fun j => nI (T j)))), (atd, .inl (E.2.1 0, 123, .inl td)), (av, .inl (E.2.1 0, 64, .inl va)), (ae, .inl (E.2.1 0, 64, .inl er))]) cx 1 rfl rfl (vp_in_nI (by omega) (by omega)) (by rw [nI_clamp (by omega)]; rfl) dX5_does_177 ?_
    refine g_aload_n cx dX5_does_178 rfl ?_
    refine g_get (C := RX5) (T := TX5) (N := 14) (ci := 5) cx hiX5 0 0 (by decide) rfl (by decide +kernel) rfl rfl dX5_does_179 ?_
    refine g_bipush cx dX5_does_182 kc_b64 ?_
    refine g_iload cx dX5_does_184 rfl ?_
    refine g_if_eq (tgt := 199) cx dX5_does_186 (by decide) (fun z65 => absurd z65 (by decide +kernel)) (fun z65 => ?_)
    have z65 := gn_ne0 z65
    refine g_iload_n cx dX5_does_189 rfl ?_
    refine g_bipush cx dX5_does_190 kc_b114 ?_
    refine g_icmp_ne (tgt := 199) cx dX5_does_192 (by decide) (fun z66 => ?_) (fun z66 => absurd z66 (by decide +kernel))
    have z66 := gn_ne (a := 119) (b := 114) z66
    refine g_aload_n cx dX5_does_199 rfl ?_
    refine g_get (C := RX5) (T := TX5) (N := 14) (ci := 5) cx hiX5 0 0 (by decide) rfl (by decide +kernel) rfl rfl dX5_does_200 ?_
    refine g_bipush cx dX5_does_203 kc_b64 ?_
    refine g_iald cx 1 rfl rfl (vp_in_nI (by omega) (by omega)) (congrArg _ (nI_clamp (by omega))) dX5_does_205 ?_
    refine g_iast (ws' := [(h, .inr (5, [.ref an, .ref ap_, .ref asl, .ref ah, .int (nI hN), .ref ax, .int (nI tyN), .int th, .int (nI at_), .ref atd, .int (nI tlN), .ref av, .ref ae, .int go])), (an, .inl (E.2.1 0, 67, .inl (upd (upd nw 66 ((nI 1) - (nw 66))) 64 ((upd nw 66 ((nI 1) - (nw 66))) 64)))), (ap_, .inl (E.2.1 0, 402, .inl ps)), (asl, .inl (E.2.1 0, 134, .inl sl)), (ah, .inl (E.2.1 0, 2, .inl hsl)), (ax, .inl (E.2.1 0, 80, .inl (fun j => nI (T j)))), (atd, .inl (E.2.1 0, 123, .inl td)), (av, .inl (E.2.1 0, 64, .inl va)), (ae, .inl (E.2.1 0, 64, .inl er))]) cx 1 rfl rfl (vp_in_nI (by omega) (by omega)) (by rw [nI_clamp (by omega)]; rfl) dX5_does_206 ?_
    refine g_ws (ws' := [(h, .inr (5, [.ref an, .ref ap_, .ref asl, .ref ah, .int (nI hN), .ref ax, .int (nI tyN), .int th, .int (nI at_), .ref atd, .int (nI tlN), .ref av, .ref ae, .int go])), (an, .inl (E.2.1 0, 67, .inl (upd nw 66 ((nI 1) - (nw 66))))), (ap_, .inl (E.2.1 0, 402, .inl ps)), (asl, .inl (E.2.1 0, 134, .inl sl)), (ah, .inl (E.2.1 0, 2, .inl hsl)), (ax, .inl (E.2.1 0, 80, .inl (fun j => nI (T j)))), (atd, .inl (E.2.1 0, 123, .inl td)), (av, .inl (E.2.1 0, 64, .inl va)), (ae, .inl (E.2.1 0, 64, .inl er))]) (by rw [upd_id]) ?_
    have hq : dsN nw 119 v w9 = (true, upd nw 66 (nI 1 - nw 66)) := by unfold dsN; rw [if_neg (by decide), if_neg (by decide), if_neg (by decide), if_pos rfl]
    refine g_iload cx dX5_does_207 rfl ?_
    exact g_zretE cx (by decide +kernel) dX5_does_209 (by rw [hq]) (by rw [hq]; first | exact gB_t | exact gB_f)
  ·
    refine g_aload_n cx dX5_does_0 rfl ?_
    refine g_get (C := RX5) (T := TX5) (N := 14) (ci := 5) cx hiX5 0 9 (by decide) rfl (by decide +kernel) rfl rfl dX5_does_1 ?_
    refine g_iload_n cx dX5_does_4 rfl ?_
    refine g_iald cx 6 rfl rfl (vp_in_nI (by omega) (by omega)) (congrArg _ (nI_clamp (by omega))) dX5_does_5 ?_
    refine g_top (show td pp = nI 114 from h0) ?_
    refine g_istore_n (lv' := [(2, .int (nI 114)), (0, .ref h), (1, .int (nI pp))]) cx dX5_does_6 rfl (by decide) rfl ?_
    refine g_aload_n cx dX5_does_7 rfl ?_
    refine g_get (C := RX5) (T := TX5) (N := 14) (ci := 5) cx hiX5 0 9 (by decide) rfl (by decide +kernel) rfl rfl dX5_does_8 ?_
    refine g_iload_n cx dX5_does_11 rfl ?_
    refine g_iconst cx dX5_does_12 kc_i1 ?_
    refine g_iadd cx dX5_does_13 ?_
    refine g_top (nI_add pp 1) ?_
    refine g_iald cx 6 rfl rfl (vp_in_nI (by omega) (by omega)) (congrArg _ (nI_clamp (by omega))) dX5_does_14 ?_
    refine g_top (show (td (pp + 1)) = nI v from h1) ?_
    refine g_istore_n (lv' := [(3, .int (nI v)), (2, .int (nI 114)), (0, .ref h), (1, .int (nI pp))]) cx dX5_does_15 rfl (by decide) rfl ?_
    refine g_aload_n cx dX5_does_16 rfl ?_
    refine g_get (C := RX5) (T := TX5) (N := 14) (ci := 5) cx hiX5 0 9 (by decide) rfl (by decide +kernel) rfl rfl dX5_does_17 ?_
    refine g_iload_n cx dX5_does_20 rfl ?_
    refine g_iconst cx dX5_does_21 kc_i2 ?_
    refine g_iadd cx dX5_does_22 ?_
    refine g_top (nI_add pp 2) ?_
    refine g_iald cx 6 rfl rfl (vp_in_nI (by omega) (by omega)) (congrArg _ (nI_clamp (by omega))) dX5_does_23 ?_
    refine g_top (show (td (pp + 2)) = nI w9 from h2) ?_
    refine g_istore (lv' := [(4, .int (nI w9)), (3, .int (nI v)), (2, .int (nI 114)), (0, .ref h), (1, .int (nI pp))]) cx dX5_does_24 (by decide) rfl ?_
    refine g_iload_n cx dX5_does_26 rfl ?_
    refine g_bipush cx dX5_does_27 kc_b103 ?_
    refine g_icmp_ne (tgt := 54) cx dX5_does_29 (by decide) (fun z67 => ?_) (fun z67 => absurd z67 (by decide +kernel))
    have z67 := gn_ne (a := 114) (b := 103) z67
    refine g_iload_n cx dX5_does_54 rfl ?_
    refine g_bipush cx dX5_does_55 kc_b116 ?_
    refine g_icmp_ne (tgt := 71) cx dX5_does_57 (by decide) (fun z68 => ?_) (fun z68 => absurd z68 (by decide +kernel))
    have z68 := gn_ne (a := 114) (b := 116) z68
    refine g_iload_n cx dX5_does_71 rfl ?_
    refine g_bipush cx dX5_does_72 kc_b114 ?_
    refine g_icmp_ne (tgt := 82) cx dX5_does_74 (by decide) (fun z69 => absurd z69 (by decide +kernel)) (fun z69 => ?_)
    have z69 := gn_eq (a := 114) (b := 114) (by omega) (by omega) z69
    refine g_iload_n cx dX5_does_77 rfl ?_
    refine g_iconst cx dX5_does_78 kc_i3 ?_
    refine g_icmp_gt (tgt := 86) cx dX5_does_79 (by decide) (fun z70 => ?_) (fun z70 => ?_)
    ·
      have z70 := gn_lt (a := 3) (b := v) (by omega) (by omega) z70
      refine g_iconst cx dX5_does_86 kc_i0 ?_
      refine g_istore (lv' := [(5, .int (nI 0)), (4, .int (nI w9)), (3, .int (nI v)), (2, .int (nI 114)), (0, .ref h), (1, .int (nI pp))]) cx dX5_does_87 (by decide) rfl ?_
      refine g_iload cx dX5_does_89 rfl ?_
      refine g_if_eq (tgt := 108) cx dX5_does_91 (by decide) (fun z71 => ?_) (fun z71 => absurd z71 (by decide +kernel))
      have z71 := gn_eq0 (by omega) z71
      refine g_iload cx dX5_does_108 rfl ?_
      refine g_if_eq (tgt := 124) cx dX5_does_110 (by decide) (fun z72 => ?_) (fun z72 => absurd z72 (by decide +kernel))
      have z72 := gn_eq0 (by omega) z72
      refine g_iload cx dX5_does_124 rfl ?_
      refine g_if_eq (tgt := 141) cx dX5_does_126 (by decide) (fun z73 => ?_) (fun z73 => absurd z73 (by decide +kernel))
      have z73 := gn_eq0 (by omega) z73
      refine g_aload_n cx dX5_does_141 rfl ?_
      refine g_get (C := RX5) (T := TX5) (N := 14) (ci := 5) cx hiX5 0 0 (by decide) rfl (by decide +kernel) rfl rfl dX5_does_142 ?_
      refine g_bipush cx dX5_does_145 kc_b66 ?_
      refine g_iload cx dX5_does_147 rfl ?_
      refine g_if_eq (tgt := 170) cx dX5_does_149 (by decide) (fun z74 => ?_) (fun z74 => absurd z74 (by decide +kernel))
      have z74 := gn_eq0 (by omega) z74
      refine g_aload_n cx dX5_does_170 rfl ?_
      refine g_get (C := RX5) (T := TX5) (N := 14) (ci := 5) cx hiX5 0 0 (by decide) rfl (by decide +kernel) rfl rfl dX5_does_171 ?_
      refine g_bipush cx dX5_does_174 kc_b66 ?_
      refine g_iald cx 1 rfl rfl (vp_in_nI (by omega) (by omega)) (congrArg _ (nI_clamp (by omega))) dX5_does_176 ?_
      refine g_iast (ws' := [(h, .inr (5, [.ref an, .ref ap_, .ref asl, .ref ah, .int (nI hN), .ref ax, .int (nI tyN), .int th, .int (nI at_), .ref atd, .int (nI tlN), .ref av, .ref ae, .int go])), (an, .inl (E.2.1 0, 67, .inl (upd nw 66 (nw 66)))), (ap_, .inl (E.2.1 0, 402, .inl ps)), (asl, .inl (E.2.1 0, 134, .inl sl)), (ah, .inl (E.2.1 0, 2, .inl hsl)), (ax, .inl (E.2.1 0, 80, .inl (fun j => nI (T j)))), (atd, .inl (E.2.1 0, 123, .inl td)), (av, .inl (E.2.1 0, 64, .inl va)), (ae, .inl (E.2.1 0, 64, .inl er))]) cx 1 rfl rfl (vp_in_nI (by omega) (by omega)) (by rw [nI_clamp (by omega)]; rfl) dX5_does_177 ?_
      refine g_ws (ws' := [(h, .inr (5, [.ref an, .ref ap_, .ref asl, .ref ah, .int (nI hN), .ref ax, .int (nI tyN), .int th, .int (nI at_), .ref atd, .int (nI tlN), .ref av, .ref ae, .int go])), (an, .inl (E.2.1 0, 67, .inl nw)), (ap_, .inl (E.2.1 0, 402, .inl ps)), (asl, .inl (E.2.1 0, 134, .inl sl)), (ah, .inl (E.2.1 0, 2, .inl hsl)), (ax, .inl (E.2.1 0, 80, .inl (fun j => nI (T j)))), (atd, .inl (E.2.1 0, 123, .inl td)), (av, .inl (E.2.1 0, 64, .inl va)), (ae, .inl (E.2.1 0, 64, .inl er))]) (by rw [upd_id]) ?_
      refine g_aload_n cx dX5_does_178 rfl ?_
      refine g_get (C := RX5) (T := TX5) (N := 14) (ci := 5) cx hiX5 0 0 (by decide) rfl (by decide +kernel) rfl rfl dX5_does_179 ?_
      refine g_bipush cx dX5_does_182 kc_b64 ?_
      refine g_iload cx dX5_does_184 rfl ?_
      refine g_if_eq (tgt := 199) cx dX5_does_186 (by decide) (fun z75 => ?_) (fun z75 => absurd z75 (by decide +kernel))
      have z75 := gn_eq0 (by omega) z75
      refine g_aload_n cx dX5_does_199 rfl ?_
      refine g_get (C := RX5) (T := TX5) (N := 14) (ci := 5) cx hiX5 0 0 (by decide) rfl (by decide +kernel) rfl rfl dX5_does_200 ?_
      refine g_bipush cx dX5_does_203 kc_b64 ?_
      refine g_iald cx 1 rfl rfl (vp_in_nI (by omega) (by omega)) (congrArg _ (nI_clamp (by omega))) dX5_does_205 ?_
      refine g_iast (ws' := [(h, .inr (5, [.ref an, .ref ap_, .ref asl, .ref ah, .int (nI hN), .ref ax, .int (nI tyN), .int th, .int (nI at_), .ref atd, .int (nI tlN), .ref av, .ref ae, .int go])), (an, .inl (E.2.1 0, 67, .inl (upd nw 64 (nw 64)))), (ap_, .inl (E.2.1 0, 402, .inl ps)), (asl, .inl (E.2.1 0, 134, .inl sl)), (ah, .inl (E.2.1 0, 2, .inl hsl)), (ax, .inl (E.2.1 0, 80, .inl (fun j => nI (T j)))), (atd, .inl (E.2.1 0, 123, .inl td)), (av, .inl (E.2.1 0, 64, .inl va)), (ae, .inl (E.2.1 0, 64, .inl er))]) cx 1 rfl rfl (vp_in_nI (by omega) (by omega)) (by rw [nI_clamp (by omega)]; rfl) dX5_does_206 ?_
      refine g_ws (ws' := [(h, .inr (5, [.ref an, .ref ap_, .ref asl, .ref ah, .int (nI hN), .ref ax, .int (nI tyN), .int th, .int (nI at_), .ref atd, .int (nI tlN), .ref av, .ref ae, .int go])), (an, .inl (E.2.1 0, 67, .inl nw)), (ap_, .inl (E.2.1 0, 402, .inl ps)), (asl, .inl (E.2.1 0, 134, .inl sl)), (ah, .inl (E.2.1 0, 2, .inl hsl)), (ax, .inl (E.2.1 0, 80, .inl (fun j => nI (T j)))), (atd, .inl (E.2.1 0, 123, .inl td)), (av, .inl (E.2.1 0, 64, .inl va)), (ae, .inl (E.2.1 0, 64, .inl er))]) (by rw [upd_id]) ?_
      have hq : dsN nw 114 v w9 = (false, nw) := by unfold dsN; rw [if_neg (by decide), if_neg (by decide), if_neg (by decide), if_neg (by decide)]; unfold dsR; rw [if_neg (by omega)]
      refine g_iload cx dX5_does_207 rfl ?_
      exact g_zretE cx (by decide +kernel) dX5_does_209 (by rw [hq]) (by rw [hq]; first | exact gB_t | exact gB_f)
    ·
      have z70 := gn_nlt (a := 3) (b := v) (by omega) (by omega) z70
      refine g_iconst cx dX5_does_82 kc_i1 ?_
      refine g_goto (tgt := 87) cx dX5_does_83 (by decide) ?_
      refine g_istore (lv' := [(5, .int (nI 1)), (4, .int (nI w9)), (3, .int (nI v)), (2, .int (nI 114)), (0, .ref h), (1, .int (nI pp))]) cx dX5_does_87 (by decide) rfl ?_
      refine g_iload cx dX5_does_89 rfl ?_
      refine g_if_eq (tgt := 108) cx dX5_does_91 (by decide) (fun z76 => absurd z76 (by decide +kernel)) (fun z76 => ?_)
      have z76 := gn_ne0 z76
      refine g_iload_n cx dX5_does_94 rfl ?_
      refine g_bipush cx dX5_does_95 kc_b103 ?_
      refine g_icmp_ne (tgt := 108) cx dX5_does_97 (by decide) (fun z77 => ?_) (fun z77 => absurd z77 (by decide +kernel))
      have z77 := gn_ne (a := 114) (b := 103) z77
      refine g_iload cx dX5_does_108 rfl ?_
      refine g_if_eq (tgt := 124) cx dX5_does_110 (by decide) (fun z78 => absurd z78 (by decide +kernel)) (fun z78 => ?_)
      have z78 := gn_ne0 z78
      refine g_iload_n cx dX5_does_113 rfl ?_
      refine g_bipush cx dX5_does_114 kc_b105 ?_
      refine g_icmp_ne (tgt := 124) cx dX5_does_116 (by decide) (fun z79 => ?_) (fun z79 => absurd z79 (by decide +kernel))
      have z79 := gn_ne (a := 114) (b := 105) z79
      refine g_iload cx dX5_does_124 rfl ?_
      refine g_if_eq (tgt := 141) cx dX5_does_126 (by decide) (fun z80 => absurd z80 (by decide +kernel)) (fun z80 => ?_)
      have z80 := gn_ne0 z80
      refine g_iload_n cx dX5_does_129 rfl ?_
      refine g_bipush cx dX5_does_130 kc_b116 ?_
      refine g_icmp_ne (tgt := 141) cx dX5_does_132 (by decide) (fun z81 => ?_) (fun z81 => absurd z81 (by decide +kernel))
      have z81 := gn_ne (a := 114) (b := 116) z81
      refine g_aload_n cx dX5_does_141 rfl ?_
      refine g_get (C := RX5) (T := TX5) (N := 14) (ci := 5) cx hiX5 0 0 (by decide) rfl (by decide +kernel) rfl rfl dX5_does_142 ?_
      refine g_bipush cx dX5_does_145 kc_b66 ?_
      refine g_iload cx dX5_does_147 rfl ?_
      refine g_if_eq (tgt := 170) cx dX5_does_149 (by decide) (fun z82 => absurd z82 (by decide +kernel)) (fun z82 => ?_)
      have z82 := gn_ne0 z82
      refine g_iload_n cx dX5_does_152 rfl ?_
      refine g_bipush cx dX5_does_153 kc_b119 ?_
      refine g_icmp_ne (tgt := 170) cx dX5_does_155 (by decide) (fun z83 => ?_) (fun z83 => absurd z83 (by decide +kernel))
      have z83 := gn_ne (a := 114) (b := 119) z83
      refine g_aload_n cx dX5_does_170 rfl ?_
      refine g_get (C := RX5) (T := TX5) (N := 14) (ci := 5) cx hiX5 0 0 (by decide) rfl (by decide +kernel) rfl rfl dX5_does_171 ?_
      refine g_bipush cx dX5_does_174 kc_b66 ?_
      refine g_iald cx 1 rfl rfl (vp_in_nI (by omega) (by omega)) (congrArg _ (nI_clamp (by omega))) dX5_does_176 ?_
      refine g_iast (ws' := [(h, .inr (5, [.ref an, .ref ap_, .ref asl, .ref ah, .int (nI hN), .ref ax, .int (nI tyN), .int th, .int (nI at_), .ref atd, .int (nI tlN), .ref av, .ref ae, .int go])), (an, .inl (E.2.1 0, 67, .inl (upd nw 66 (nw 66)))), (ap_, .inl (E.2.1 0, 402, .inl ps)), (asl, .inl (E.2.1 0, 134, .inl sl)), (ah, .inl (E.2.1 0, 2, .inl hsl)), (ax, .inl (E.2.1 0, 80, .inl (fun j => nI (T j)))), (atd, .inl (E.2.1 0, 123, .inl td)), (av, .inl (E.2.1 0, 64, .inl va)), (ae, .inl (E.2.1 0, 64, .inl er))]) cx 1 rfl rfl (vp_in_nI (by omega) (by omega)) (by rw [nI_clamp (by omega)]; rfl) dX5_does_177 ?_
      refine g_ws (ws' := [(h, .inr (5, [.ref an, .ref ap_, .ref asl, .ref ah, .int (nI hN), .ref ax, .int (nI tyN), .int th, .int (nI at_), .ref atd, .int (nI tlN), .ref av, .ref ae, .int go])), (an, .inl (E.2.1 0, 67, .inl nw)), (ap_, .inl (E.2.1 0, 402, .inl ps)), (asl, .inl (E.2.1 0, 134, .inl sl)), (ah, .inl (E.2.1 0, 2, .inl hsl)), (ax, .inl (E.2.1 0, 80, .inl (fun j => nI (T j)))), (atd, .inl (E.2.1 0, 123, .inl td)), (av, .inl (E.2.1 0, 64, .inl va)), (ae, .inl (E.2.1 0, 64, .inl er))]) (by rw [upd_id]) ?_
      refine g_aload_n cx dX5_does_178 rfl ?_
      refine g_get (C := RX5) (T := TX5) (N := 14) (ci := 5) cx hiX5 0 0 (by decide) rfl (by decide +kernel) rfl rfl dX5_does_179 ?_
      refine g_bipush cx dX5_does_182 kc_b64 ?_
      refine g_iload cx dX5_does_184 rfl ?_
      refine g_if_eq (tgt := 199) cx dX5_does_186 (by decide) (fun z84 => absurd z84 (by decide +kernel)) (fun z84 => ?_)
      have z84 := gn_ne0 z84
      refine g_iload_n cx dX5_does_189 rfl ?_
      refine g_bipush cx dX5_does_190 kc_b114 ?_
      refine g_icmp_ne (tgt := 199) cx dX5_does_192 (by decide) (fun z85 => absurd z85 (by decide +kernel)) (fun z85 => ?_)
      have z85 := gn_eq (a := 114) (b := 114) (by omega) (by omega) z85
      refine g_iload_n cx dX5_does_195 rfl ?_
      refine g_goto (tgt := 206) cx dX5_does_196 (by decide) ?_
      refine g_iast (ws' := [(h, .inr (5, [.ref an, .ref ap_, .ref asl, .ref ah, .int (nI hN), .ref ax, .int (nI tyN), .int th, .int (nI at_), .ref atd, .int (nI tlN), .ref av, .ref ae, .int go])), (an, .inl (E.2.1 0, 67, .inl (upd nw 64 (nI v)))), (ap_, .inl (E.2.1 0, 402, .inl ps)), (asl, .inl (E.2.1 0, 134, .inl sl)), (ah, .inl (E.2.1 0, 2, .inl hsl)), (ax, .inl (E.2.1 0, 80, .inl (fun j => nI (T j)))), (atd, .inl (E.2.1 0, 123, .inl td)), (av, .inl (E.2.1 0, 64, .inl va)), (ae, .inl (E.2.1 0, 64, .inl er))]) cx 1 rfl rfl (vp_in_nI (by omega) (by omega)) (by rw [nI_clamp (by omega)]; rfl) dX5_does_206 ?_
      have hq : dsN nw 114 v w9 = (true, upd nw 64 (nI v)) := by unfold dsN; rw [if_neg (by decide), if_neg (by decide), if_neg (by decide), if_neg (by decide)]; unfold dsR; rw [if_pos (by omega)]
      refine g_iload cx dX5_does_207 rfl ?_
      exact g_zretE cx (by decide +kernel) dX5_does_209 (by rw [hq]) (by rw [hq]; first | exact gB_t | exact gB_f)
set_option maxRecDepth 100000 in
set_option maxHeartbeats 4000000 in
theorem c_X5_runText_a (l : Launch) (E : gEnv) (h : Nat) (an : Nat) (ap_ : Nat) (asl : Nat) (ah : Nat) (ax : Nat) (atd : Nat) (av : Nat) (ae : Nat) (nw : Nat → Int32) (ps : Nat → Int32) (sl : Nat → Int32) (hsl : Nat → Int32) (td : Nat → Int32) (va : Nat → Int32) (er : Nat → Int32) (T : Nat → Nat) (hN : Nat) (tyN : Nat) (at_ : Nat) (tlN : Nat) (th : Int32) (go : Int32) (hty : tyN ≤ 80) (hT : ∀ j, T j < 128) (hz : rdB (rdA T tyN td) tyN = false) : gM l yX5_runText wsX5_runText ({ frames := 4, cells := 0, slots := 0, locals := 89 } : Room) E [.ref h] [(h, .inr (5, [.ref an, .ref ap_, .ref asl, .ref ah, .int (nI hN), .ref ax, .int (nI tyN), .int th, .int (nI at_), .ref atd, .int (nI tlN), .ref av, .ref ae, .int go])), (an, .inl (E.2.1 0, 67, .inl nw)), (ap_, .inl (E.2.1 0, 402, .inl ps)), (asl, .inl (E.2.1 0, 134, .inl sl)), (ah, .inl (E.2.1 0, 2, .inl hsl)), (ax, .inl (E.2.1 0, 80, .inl (fun j => nI (T j)))), (atd, .inl (E.2.1 0, 123, .inl td)), (av, .inl (E.2.1 0, 64, .inl va)), (ae, .inl (E.2.1 0, 64, .inl er))] [(h, .inr (5, [.ref an, .ref ap_, .ref asl, .ref ah, .int (nI hN), .ref ax, .int (nI tyN), .int (nI 1), .int (nI ((rdA T tyN td).2.1)), .ref atd, .int (nI ((rdA T tyN td).2.2.2)), .ref av, .ref ae, .int go])), (an, .inl (E.2.1 0, 67, .inl nw)), (ap_, .inl (E.2.1 0, 402, .inl ps)), (asl, .inl (E.2.1 0, 134, .inl sl)), (ah, .inl (E.2.1 0, 2, .inl hsl)), (ax, .inl (E.2.1 0, 80, .inl (fun j => nI (T j)))), (atd, .inl (E.2.1 0, 123, .inl ((rdA T tyN td).2.2.1))), (av, .inl (E.2.1 0, 64, .inl va)), (ae, .inl (E.2.1 0, 64, .inl er))] (some (.int (nI 0))) := by
  refine gM.ofG (cc := cX5_runText) (nL := 2) (ret := (some .int)) (own := RX5) [(0, .ref h)] (by decide) rfl rfl (Nat.le_of_ble_eq_true rfl) rfl rfl ?_
  intro pX eX sX mX bX tX cX A cx
  have hiX5 : ∀ w ∈ u_ws RX5 TX5 14, w ∈ wsX5_runText := by decide +kernel
  refine g_aload_n cx dX5_runText_0 rfl ?_
  refine g_iconst cx dX5_runText_1 kc_i0 ?_
  refine g_put (ws' := [(h, .inr (5, [.ref an, .ref ap_, .ref asl, .ref ah, .int (nI hN), .ref ax, .int (nI tyN), .int (nI 0), .int (nI at_), .ref atd, .int (nI tlN), .ref av, .ref ae, .int go])), (an, .inl (E.2.1 0, 67, .inl nw)), (ap_, .inl (E.2.1 0, 402, .inl ps)), (asl, .inl (E.2.1 0, 134, .inl sl)), (ah, .inl (E.2.1 0, 2, .inl hsl)), (ax, .inl (E.2.1 0, 80, .inl (fun j => nI (T j)))), (atd, .inl (E.2.1 0, 123, .inl td)), (av, .inl (E.2.1 0, 64, .inl va)), (ae, .inl (E.2.1 0, 64, .inl er))]) (C := RX5) (T := TX5) (N := 14) (ci := 5) cx hiX5 tyX5 tyX5_ok nmX5 0 7 (by decide) rfl (by decide +kernel) rfl rfl rfl rfl rfl (Nat.le_of_ble_eq_true rfl) rfl dX5_runText_2 ?_
  refine g_aload_n cx dX5_runText_5 rfl ?_
  refine g_callV (ws' := [(h, .inr (5, [.ref an, .ref ap_, .ref asl, .ref ah, .int (nI hN), .ref ax, .int (nI tyN), .int (nI 0), .int (nI ((rdA T tyN td).2.1)), .ref atd, .int (nI ((rdA T tyN td).2.2.2)), .ref av, .ref ae, .int go])), (an, .inl (E.2.1 0, 67, .inl nw)), (ap_, .inl (E.2.1 0, 402, .inl ps)), (asl, .inl (E.2.1 0, 134, .inl sl)), (ah, .inl (E.2.1 0, 2, .inl hsl)), (ax, .inl (E.2.1 0, 80, .inl (fun j => nI (T j)))), (atd, .inl (E.2.1 0, 123, .inl ((rdA T tyN td).2.2.1))), (av, .inl (E.2.1 0, 64, .inl va)), (ae, .inl (E.2.1 0, 64, .inl er))]) (As := []) (rest := []) (n := 0) (T := TX5) (N := 14) (ci := 5) cx (c_X5_reads l E h an ap_ asl ah ax atd av ae nw ps sl hsl td va er T hN tyN at_ tlN (nI 0) go (by omega) hT) gX5_runText_X5_reads rfl (by decide +kernel) rfl rfl ⟨Nat.le_of_ble_eq_true rfl, Nat.le_of_ble_eq_true rfl⟩ ⟨Nat.zero_le _, Nat.zero_le _⟩ [0, 1, 2, 3, 4, 5, 6, 7, 8] 0 rfl rfl (by decide) rfl rfl rfl rfl (Nat.le_of_ble_eq_true rfl) dX5_runText_6 ?_
  refine g_if_ne (tgt := 18) cx dX5_runText_9 (by decide) (fun z1 => absurd ((hz : rdB (rdA T tyN td) tyN = false).symm.trans (gB_ne0 z1)) (by decide)) (fun z1 => ?_)
  have z1 := gB_eq0 z1
  refine g_aload_n cx dX5_runText_12 rfl ?_
  refine g_iconst cx dX5_runText_13 kc_i1 ?_
  refine g_callV (ws' := [(h, .inr (5, [.ref an, .ref ap_, .ref asl, .ref ah, .int (nI hN), .ref ax, .int (nI tyN), .int (nI 1), .int (nI ((rdA T tyN td).2.1)), .ref atd, .int (nI ((rdA T tyN td).2.2.2)), .ref av, .ref ae, .int go])), (an, .inl (E.2.1 0, 67, .inl nw)), (ap_, .inl (E.2.1 0, 402, .inl ps)), (asl, .inl (E.2.1 0, 134, .inl sl)), (ah, .inl (E.2.1 0, 2, .inl hsl)), (ax, .inl (E.2.1 0, 80, .inl (fun j => nI (T j)))), (atd, .inl (E.2.1 0, 123, .inl ((rdA T tyN td).2.2.1))), (av, .inl (E.2.1 0, 64, .inl va)), (ae, .inl (E.2.1 0, 64, .inl er))]) (As := [.int (nI 1)]) (rest := []) (n := 1) (T := TX5) (N := 14) (ci := 5) cx (c_X5_fails l E h an ap_ asl ah ax atd av ae nw ps sl hsl ((rdA T tyN td).2.2.1) va er T hN tyN ((rdA T tyN td).2.1) ((rdA T tyN td).2.2.2) (nI 0) go (nI 1) ) gX5_runText_X5_fails rfl (by decide +kernel) rfl rfl ⟨Nat.le_of_ble_eq_true rfl, Nat.le_of_ble_eq_true rfl⟩ ⟨Nat.zero_le _, Nat.zero_le _⟩ [0, 1, 2, 3, 4, 5, 6, 7, 8] 0 rfl rfl (by decide) rfl rfl rfl rfl (Nat.le_of_ble_eq_true rfl) dX5_runText_14 ?_
  exact g_iretE cx dX5_runText_17 (rfl) (rfl)
set_option maxRecDepth 100000 in
set_option maxHeartbeats 4000000 in
theorem c_X5_runText_c (l : Launch) (E : gEnv) (h : Nat) (an : Nat) (ap_ : Nat) (asl : Nat) (ah : Nat) (ax : Nat) (atd : Nat) (av : Nat) (ae : Nat) (nw : Nat → Int32) (ps : Nat → Int32) (sl : Nat → Int32) (hsl : Nat → Int32) (td : Nat → Int32) (va : Nat → Int32) (er : Nat → Int32) (T : Nat → Nat) (hN : Nat) (tyN : Nat) (at_ : Nat) (tlN : Nat) (th : Int32) (go : Int32) (hty : tyN ≤ 80) (hT : ∀ j, T j < 128) (hz : rdB (rdA T tyN td) tyN = true) (h6 : hN ≤ 6) : gM l yX5_runText wsX5_runText ({ frames := 4, cells := 0, slots := 0, locals := 89 } : Room) E [.ref h] [(h, .inr (5, [.ref an, .ref ap_, .ref asl, .ref ah, .int (nI hN), .ref ax, .int (nI tyN), .int th, .int (nI at_), .ref atd, .int (nI tlN), .ref av, .ref ae, .int go])), (an, .inl (E.2.1 0, 67, .inl nw)), (ap_, .inl (E.2.1 0, 402, .inl ps)), (asl, .inl (E.2.1 0, 134, .inl sl)), (ah, .inl (E.2.1 0, 2, .inl hsl)), (ax, .inl (E.2.1 0, 80, .inl (fun j => nI (T j)))), (atd, .inl (E.2.1 0, 123, .inl td)), (av, .inl (E.2.1 0, 64, .inl va)), (ae, .inl (E.2.1 0, 64, .inl er))] [(h, .inr (5, [.ref an, .ref ap_, .ref asl, .ref ah, .int (nI (kN hN)), .ref ax, .int (nI 0), .int (nI 0), .int (nI ((rdA T tyN td).2.1)), .ref atd, .int (nI ((rdA T tyN td).2.2.2)), .ref av, .ref ae, .int go])), (an, .inl (E.2.1 0, 67, .inl ((dol (rdA T tyN td).2.2.1 (rdA T tyN td).2.2.2 0 nw).2))), (ap_, .inl (E.2.1 0, 402, .inl (kP ps nw hN))), (asl, .inl (E.2.1 0, 134, .inl sl)), (ah, .inl (E.2.1 0, 2, .inl hsl)), (ax, .inl (E.2.1 0, 80, .inl (fun j => nI (T j)))), (atd, .inl (E.2.1 0, 123, .inl ((rdA T tyN td).2.2.1))), (av, .inl (E.2.1 0, 64, .inl va)), (ae, .inl (E.2.1 0, 64, .inl er))] (some (.int (nI ((dol (rdA T tyN td).2.2.1 (rdA T tyN td).2.2.2 0 nw).1)))) := by
  refine gM.ofG (cc := cX5_runText) (nL := 2) (ret := (some .int)) (own := RX5) [(0, .ref h)] (by decide) rfl rfl (Nat.le_of_ble_eq_true rfl) rfl rfl ?_
  intro pX eX sX mX bX tX cX A cx
  have hiX5 : ∀ w ∈ u_ws RX5 TX5 14, w ∈ wsX5_runText := by decide +kernel
  have hlen := rdA_len (n := tyN) hT td
  have hok := rdA_told (n := tyN) hT td hz
  refine g_aload_n cx dX5_runText_0 rfl ?_
  refine g_iconst cx dX5_runText_1 kc_i0 ?_
  refine g_put (ws' := [(h, .inr (5, [.ref an, .ref ap_, .ref asl, .ref ah, .int (nI hN), .ref ax, .int (nI tyN), .int (nI 0), .int (nI at_), .ref atd, .int (nI tlN), .ref av, .ref ae, .int go])), (an, .inl (E.2.1 0, 67, .inl nw)), (ap_, .inl (E.2.1 0, 402, .inl ps)), (asl, .inl (E.2.1 0, 134, .inl sl)), (ah, .inl (E.2.1 0, 2, .inl hsl)), (ax, .inl (E.2.1 0, 80, .inl (fun j => nI (T j)))), (atd, .inl (E.2.1 0, 123, .inl td)), (av, .inl (E.2.1 0, 64, .inl va)), (ae, .inl (E.2.1 0, 64, .inl er))]) (C := RX5) (T := TX5) (N := 14) (ci := 5) cx hiX5 tyX5 tyX5_ok nmX5 0 7 (by decide) rfl (by decide +kernel) rfl rfl rfl rfl rfl (Nat.le_of_ble_eq_true rfl) rfl dX5_runText_2 ?_
  refine g_aload_n cx dX5_runText_5 rfl ?_
  refine g_callV (ws' := [(h, .inr (5, [.ref an, .ref ap_, .ref asl, .ref ah, .int (nI hN), .ref ax, .int (nI tyN), .int (nI 0), .int (nI ((rdA T tyN td).2.1)), .ref atd, .int (nI ((rdA T tyN td).2.2.2)), .ref av, .ref ae, .int go])), (an, .inl (E.2.1 0, 67, .inl nw)), (ap_, .inl (E.2.1 0, 402, .inl ps)), (asl, .inl (E.2.1 0, 134, .inl sl)), (ah, .inl (E.2.1 0, 2, .inl hsl)), (ax, .inl (E.2.1 0, 80, .inl (fun j => nI (T j)))), (atd, .inl (E.2.1 0, 123, .inl ((rdA T tyN td).2.2.1))), (av, .inl (E.2.1 0, 64, .inl va)), (ae, .inl (E.2.1 0, 64, .inl er))]) (As := []) (rest := []) (n := 0) (T := TX5) (N := 14) (ci := 5) cx (c_X5_reads l E h an ap_ asl ah ax atd av ae nw ps sl hsl td va er T hN tyN at_ tlN (nI 0) go (by omega) hT) gX5_runText_X5_reads rfl (by decide +kernel) rfl rfl ⟨Nat.le_of_ble_eq_true rfl, Nat.le_of_ble_eq_true rfl⟩ ⟨Nat.zero_le _, Nat.zero_le _⟩ [0, 1, 2, 3, 4, 5, 6, 7, 8] 0 rfl rfl (by decide) rfl rfl rfl rfl (Nat.le_of_ble_eq_true rfl) dX5_runText_6 ?_
  refine g_if_ne (tgt := 18) cx dX5_runText_9 (by decide) (fun z1 => ?_) (fun z1 => absurd ((hz : rdB (rdA T tyN td) tyN = true).symm.trans (gB_eq0 z1)) (by decide))
  have z1 := gB_ne0 z1
  refine g_aload_n cx dX5_runText_18 rfl ?_
  refine g_callV (ws' := [(h, .inr (5, [.ref an, .ref ap_, .ref asl, .ref ah, .int (nI (kN hN)), .ref ax, .int (nI tyN), .int (nI 0), .int (nI ((rdA T tyN td).2.1)), .ref atd, .int (nI ((rdA T tyN td).2.2.2)), .ref av, .ref ae, .int go])), (an, .inl (E.2.1 0, 67, .inl nw)), (ap_, .inl (E.2.1 0, 402, .inl (kP ps nw hN))), (asl, .inl (E.2.1 0, 134, .inl sl)), (ah, .inl (E.2.1 0, 2, .inl hsl)), (ax, .inl (E.2.1 0, 80, .inl (fun j => nI (T j)))), (atd, .inl (E.2.1 0, 123, .inl ((rdA T tyN td).2.2.1))), (av, .inl (E.2.1 0, 64, .inl va)), (ae, .inl (E.2.1 0, 64, .inl er))]) (As := []) (rest := []) (n := 0) (T := TX5) (N := 14) (ci := 5) cx (c_X5_keepsState l E h an ap_ asl ah ax atd av ae nw ps sl hsl ((rdA T tyN td).2.2.1) va er T hN tyN ((rdA T tyN td).2.1) ((rdA T tyN td).2.2.2) (nI 0) go (by omega)) gX5_runText_X5_keepsState rfl (by decide +kernel) rfl rfl ⟨Nat.le_of_ble_eq_true rfl, Nat.le_of_ble_eq_true rfl⟩ ⟨Nat.zero_le _, Nat.zero_le _⟩ [0, 1, 2, 3, 4, 5, 6, 7, 8] 0 rfl rfl (by decide) rfl rfl rfl rfl (Nat.le_of_ble_eq_true rfl) dX5_runText_19 ?_
  refine g_aload_n cx dX5_runText_22 rfl ?_
  refine g_iconst cx dX5_runText_23 kc_i0 ?_
  refine g_put (ws' := [(h, .inr (5, [.ref an, .ref ap_, .ref asl, .ref ah, .int (nI (kN hN)), .ref ax, .int (nI 0), .int (nI 0), .int (nI ((rdA T tyN td).2.1)), .ref atd, .int (nI ((rdA T tyN td).2.2.2)), .ref av, .ref ae, .int go])), (an, .inl (E.2.1 0, 67, .inl nw)), (ap_, .inl (E.2.1 0, 402, .inl (kP ps nw hN))), (asl, .inl (E.2.1 0, 134, .inl sl)), (ah, .inl (E.2.1 0, 2, .inl hsl)), (ax, .inl (E.2.1 0, 80, .inl (fun j => nI (T j)))), (atd, .inl (E.2.1 0, 123, .inl ((rdA T tyN td).2.2.1))), (av, .inl (E.2.1 0, 64, .inl va)), (ae, .inl (E.2.1 0, 64, .inl er))]) (C := RX5) (T := TX5) (N := 14) (ci := 5) cx hiX5 tyX5 tyX5_ok nmX5 0 6 (by decide) rfl (by decide +kernel) rfl rfl rfl rfl rfl (Nat.le_of_ble_eq_true rfl) rfl dX5_runText_24 ?_
  refine g_iconst cx dX5_runText_27 kc_i0 ?_
  refine g_istore_n (lv' := [(1, .int (nI 0)), (0, .ref h)]) cx dX5_runText_28 rfl (by decide) rfl ?_
  have L29 : ∀ (n_ : Nat) (k : Nat) (g : Nat → Int32), (rdA T tyN td).2.2.2 - k < n_ → k ≤ (rdA T tyN td).2.2.2 → dol (rdA T tyN td).2.2.1 ((rdA T tyN td).2.2.2 - k) k g = (dol (rdA T tyN td).2.2.1 (rdA T tyN td).2.2.2 0 nw) → gG pX l eX ({ frames := 4, cells := 0, slots := 0, locals := 89 } : Room) sX mX ([.ref h] : List Value).toArray bX tX cX 2 E A (MQ bX (gQ E [(h, .inr (5, [.ref an, .ref ap_, .ref asl, .ref ah, .int (nI (kN hN)), .ref ax, .int (nI 0), .int (nI 0), .int (nI ((rdA T tyN td).2.1)), .ref atd, .int (nI ((rdA T tyN td).2.2.2)), .ref av, .ref ae, .int go])), (an, .inl (E.2.1 0, 67, .inl ((dol (rdA T tyN td).2.2.1 (rdA T tyN td).2.2.2 0 nw).2))), (ap_, .inl (E.2.1 0, 402, .inl (kP ps nw hN))), (asl, .inl (E.2.1 0, 134, .inl sl)), (ah, .inl (E.2.1 0, 2, .inl hsl)), (ax, .inl (E.2.1 0, 80, .inl (fun j => nI (T j)))), (atd, .inl (E.2.1 0, 123, .inl ((rdA T tyN td).2.2.1))), (av, .inl (E.2.1 0, 64, .inl va)), (ae, .inl (E.2.1 0, 64, .inl er))] (some (.int (nI ((dol (rdA T tyN td).2.2.1 (rdA T tyN td).2.2.2 0 nw).1)))) A) ([.ref h] : List Value).toArray sX 0 0 A) 0 0 [(h, .inr (5, [.ref an, .ref ap_, .ref asl, .ref ah, .int (nI (kN hN)), .ref ax, .int (nI 0), .int (nI 0), .int (nI ((rdA T tyN td).2.1)), .ref atd, .int (nI ((rdA T tyN td).2.2.2)), .ref av, .ref ae, .int go])), (an, .inl (E.2.1 0, 67, .inl g)), (ap_, .inl (E.2.1 0, 402, .inl (kP ps nw hN))), (asl, .inl (E.2.1 0, 134, .inl sl)), (ah, .inl (E.2.1 0, 2, .inl hsl)), (ax, .inl (E.2.1 0, 80, .inl (fun j => nI (T j)))), (atd, .inl (E.2.1 0, 123, .inl ((rdA T tyN td).2.2.1))), (av, .inl (E.2.1 0, 64, .inl va)), (ae, .inl (E.2.1 0, 64, .inl er))] [(0, .ref h), (1, .int (nI k))] [] 29 := by
    intro n_
    induction n_ with
    | zero => intro k g hm_; exact absurd hm_ (Nat.not_lt_zero _)
    | succ n_ ih_L29 =>
      intro k g hm_ hk he
      refine g_iload_n cx dX5_runText_29 rfl ?_
      refine g_aload_n cx dX5_runText_30 rfl ?_
      refine g_get (C := RX5) (T := TX5) (N := 14) (ci := 5) cx hiX5 0 10 (by decide) rfl (by decide +kernel) rfl rfl dX5_runText_31 ?_
      refine g_icmp_ge (tgt := 53) cx dX5_runText_34 (by decide) (fun z2 => ?_) (fun z2 => ?_)
      ·
        have z2 := gn_le (a := (rdA T tyN td).2.2.2) (b := k) (by omega) (by omega) z2
        refine g_iload_n cx dX5_runText_53 rfl ?_
        exact g_iretE cx dX5_runText_54 (by rw [← he]; first | rw [dol_n (by omega) (by assumption)] | rw [show (rdA T tyN td).2.2.2 - k = 0 from by omega] <;> rfl) (by rw [← he]; first | rw [dol_n (by omega) (by assumption)] | rw [show (rdA T tyN td).2.2.2 - k = 0 from by omega] <;> rfl)
      ·
        have z2 := gn_nle (a := (rdA T tyN td).2.2.2) (b := k) (by omega) (by omega) z2
        have hk1 := hok k (by omega)
        refine g_aload_n cx dX5_runText_37 rfl ?_
        refine g_iconst cx dX5_runText_38 kc_i3 ?_
        refine g_iload_n cx dX5_runText_39 rfl ?_
        refine g_imul cx dX5_runText_40 ?_
        refine g_top (pk_mul 3 k) ?_
        refine g_callV (ws' := [(h, .inr (5, [.ref an, .ref ap_, .ref asl, .ref ah, .int (nI (kN hN)), .ref ax, .int (nI 0), .int (nI 0), .int (nI ((rdA T tyN td).2.1)), .ref atd, .int (nI ((rdA T tyN td).2.2.2)), .ref av, .ref ae, .int go])), (an, .inl (E.2.1 0, 67, .inl ((dsN g (tS (rdA T tyN td).2.2.1 k) (tV (rdA T tyN td).2.2.1 k) (tW (rdA T tyN td).2.2.1 k)).2))), (ap_, .inl (E.2.1 0, 402, .inl (kP ps nw hN))), (asl, .inl (E.2.1 0, 134, .inl sl)), (ah, .inl (E.2.1 0, 2, .inl hsl)), (ax, .inl (E.2.1 0, 80, .inl (fun j => nI (T j)))), (atd, .inl (E.2.1 0, 123, .inl ((rdA T tyN td).2.2.1))), (av, .inl (E.2.1 0, 64, .inl va)), (ae, .inl (E.2.1 0, 64, .inl er))]) (As := [.int (nI (3 * k))]) (rest := []) (n := 1) (T := TX5) (N := 14) (ci := 5) cx (c_X5_does l E h an ap_ asl ah ax atd av ae g (kP ps nw hN) sl hsl ((rdA T tyN td).2.2.1) va er T (kN hN) 0 ((rdA T tyN td).2.1) ((rdA T tyN td).2.2.2) (nI 0) go (3 * k) (tS (rdA T tyN td).2.2.1 k) (tV (rdA T tyN td).2.2.1 k) (tW (rdA T tyN td).2.2.1 k) hk1.1 hk1.2.1 hk1.2.2.1 hk1.2.2.2.1 (by omega) hk1.2.2.2.2.1 hk1.2.2.2.2.2) gX5_runText_X5_does rfl (by decide +kernel) rfl rfl ⟨Nat.le_of_ble_eq_true rfl, Nat.le_of_ble_eq_true rfl⟩ ⟨Nat.zero_le _, Nat.zero_le _⟩ [0, 1, 2, 3, 4, 5, 6, 7, 8] 0 rfl rfl (by decide) rfl rfl rfl rfl (Nat.le_of_ble_eq_true rfl) dX5_runText_41 ?_
        refine g_if_eq (tgt := 53) cx dX5_runText_44 (by decide) (fun z3 => ?_) (fun z3 => ?_)
        ·
          have z3 := gB_eq0 z3
          refine g_iload_n cx dX5_runText_53 rfl ?_
          exact g_iretE cx dX5_runText_54 (by rw [← he]; first | rw [dol_n (by omega) (by assumption)] | rw [show (rdA T tyN td).2.2.2 - k = 0 from by omega] <;> rfl) (by rw [← he]; first | rw [dol_n (by omega) (by assumption)] | rw [show (rdA T tyN td).2.2.2 - k = 0 from by omega] <;> rfl)
        ·
          have z3 := gB_ne0 z3
          refine g_iinc (lv' := [(1, .int (nI (k + 1))), (0, .ref h)]) (k := 1) cx dX5_runText_47 rfl (gn_inc1 k) (by decide) rfl ?_
          refine g_goto (tgt := 29) cx dX5_runText_50 (by decide) ?_
          refine g_lv [1, 0] rfl ?_
          exact ih_L29 (k + 1) ((dsN g (tS (rdA T tyN td).2.2.1 k) (tV (rdA T tyN td).2.2.1 k) (tW (rdA T tyN td).2.2.1 k)).2) (by omega) (by omega) ((dol_t (by omega) (by assumption)).symm.trans he)
  refine g_lv [1, 0] rfl ?_
  exact L29 ((rdA T tyN td).2.2.2 - 0 + 1) 0 nw (by omega) (by omega) rfl
set_option maxRecDepth 100000 in
set_option maxHeartbeats 4000000 in
theorem c_X5_appendText_a (l : Launch) (E : gEnv) (h : Nat) (an : Nat) (ap_ : Nat) (asl : Nat) (ah : Nat) (ax : Nat) (atd : Nat) (av : Nat) (ae : Nat) (nw : Nat → Int32) (ps : Nat → Int32) (sl : Nat → Int32) (hsl : Nat → Int32) (td : Nat → Int32) (va : Nat → Int32) (er : Nat → Int32) (T : Nat → Nat) (hN : Nat) (tyN : Nat) (at_ : Nat) (tlN : Nat) (th : Int32) (go : Int32) (pk : Int64) (hty : tyN ≤ 80) (hT : ∀ j, T j < 128) (hz : ¬ ((rcn 8 0 true pk).2.1 = true ∧ ¬ (rcn 8 0 true pk).1 = 0 ∧ (rcn 8 0 true pk).2.2 = 0)) : gM l yX5_appendText wsX5_appendText ({ frames := 1, cells := 0, slots := 0, locals := 22 } : Room) E [.ref h, .long pk] [(h, .inr (5, [.ref an, .ref ap_, .ref asl, .ref ah, .int (nI hN), .ref ax, .int (nI tyN), .int th, .int (nI at_), .ref atd, .int (nI tlN), .ref av, .ref ae, .int go])), (an, .inl (E.2.1 0, 67, .inl nw)), (ap_, .inl (E.2.1 0, 402, .inl ps)), (asl, .inl (E.2.1 0, 134, .inl sl)), (ah, .inl (E.2.1 0, 2, .inl hsl)), (ax, .inl (E.2.1 0, 80, .inl (fun j => nI (T j)))), (atd, .inl (E.2.1 0, 123, .inl td)), (av, .inl (E.2.1 0, 64, .inl va)), (ae, .inl (E.2.1 0, 64, .inl er))] [(h, .inr (5, [.ref an, .ref ap_, .ref asl, .ref ah, .int (nI hN), .ref ax, .int (nI tyN), .int (nI 1), .int (nI at_), .ref atd, .int (nI tlN), .ref av, .ref ae, .int go])), (an, .inl (E.2.1 0, 67, .inl nw)), (ap_, .inl (E.2.1 0, 402, .inl ps)), (asl, .inl (E.2.1 0, 134, .inl sl)), (ah, .inl (E.2.1 0, 2, .inl hsl)), (ax, .inl (E.2.1 0, 80, .inl (fun j => nI (T j)))), (atd, .inl (E.2.1 0, 123, .inl td)), (av, .inl (E.2.1 0, 64, .inl va)), (ae, .inl (E.2.1 0, 64, .inl er))] (some (.int (nI 0))) := by
  refine gM.ofG (cc := cX5_appendText) (nL := 8) (ret := (some .int)) (own := RX5) [(0, .ref h), (1, .long pk)] (by decide) rfl rfl (Nat.le_of_ble_eq_true rfl) rfl rfl ?_
  intro pX eX sX mX bX tX cX A cx
  have hiX5 : ∀ w ∈ u_ws RX5 TX5 14, w ∈ wsX5_appendText := by decide +kernel
  refine g_aload_n cx dX5_appendText_0 rfl ?_
  refine g_iconst cx dX5_appendText_1 kc_i0 ?_
  refine g_put (ws' := [(h, .inr (5, [.ref an, .ref ap_, .ref asl, .ref ah, .int (nI hN), .ref ax, .int (nI tyN), .int (nI 0), .int (nI at_), .ref atd, .int (nI tlN), .ref av, .ref ae, .int go])), (an, .inl (E.2.1 0, 67, .inl nw)), (ap_, .inl (E.2.1 0, 402, .inl ps)), (asl, .inl (E.2.1 0, 134, .inl sl)), (ah, .inl (E.2.1 0, 2, .inl hsl)), (ax, .inl (E.2.1 0, 80, .inl (fun j => nI (T j)))), (atd, .inl (E.2.1 0, 123, .inl td)), (av, .inl (E.2.1 0, 64, .inl va)), (ae, .inl (E.2.1 0, 64, .inl er))]) (C := RX5) (T := TX5) (N := 14) (ci := 5) cx hiX5 tyX5 tyX5_ok nmX5 0 7 (by decide) rfl (by decide +kernel) rfl rfl rfl rfl rfl (Nat.le_of_ble_eq_true rfl) rfl dX5_appendText_2 ?_
  refine g_iconst cx dX5_appendText_5 kc_i0 ?_
  refine g_istore_n (lv' := [(3, .int (nI 0)), (0, .ref h), (1, .long pk)]) cx dX5_appendText_6 rfl (by decide) rfl ?_
  refine g_iconst cx dX5_appendText_7 kc_i1 ?_
  refine g_top (show nI 1 = gB true from gB_t) ?_
  refine g_istore (lv' := [(4, .int (gB true)), (3, .int (nI 0)), (0, .ref h), (1, .long pk)]) cx dX5_appendText_8 (by decide) rfl ?_
  refine g_lload_n cx dX5_appendText_10 rfl ?_
  refine g_lstore (lv' := [(5, .long pk), (4, .int (gB true)), (3, .int (nI 0)), (0, .ref h), (1, .long pk)]) cx dX5_appendText_11 (by decide) rfl ?_
  have L13 : ∀ (n_ : Nat) (c9 : Nat) (b9 : Bool) (l9 : Int64), 8 - c9 < n_ → c9 ≤ 8 → rcn (8 - c9) c9 b9 l9 = rcn 8 0 true pk → gG pX l eX ({ frames := 1, cells := 0, slots := 0, locals := 22 } : Room) sX mX ([.ref h, .long pk] : List Value).toArray bX tX cX 8 E A (MQ bX (gQ E [(h, .inr (5, [.ref an, .ref ap_, .ref asl, .ref ah, .int (nI hN), .ref ax, .int (nI tyN), .int (nI 1), .int (nI at_), .ref atd, .int (nI tlN), .ref av, .ref ae, .int go])), (an, .inl (E.2.1 0, 67, .inl nw)), (ap_, .inl (E.2.1 0, 402, .inl ps)), (asl, .inl (E.2.1 0, 134, .inl sl)), (ah, .inl (E.2.1 0, 2, .inl hsl)), (ax, .inl (E.2.1 0, 80, .inl (fun j => nI (T j)))), (atd, .inl (E.2.1 0, 123, .inl td)), (av, .inl (E.2.1 0, 64, .inl va)), (ae, .inl (E.2.1 0, 64, .inl er))] (some (.int (nI 0))) A) ([.ref h, .long pk] : List Value).toArray sX 0 0 A) 0 0 [(h, .inr (5, [.ref an, .ref ap_, .ref asl, .ref ah, .int (nI hN), .ref ax, .int (nI tyN), .int (nI 0), .int (nI at_), .ref atd, .int (nI tlN), .ref av, .ref ae, .int go])), (an, .inl (E.2.1 0, 67, .inl nw)), (ap_, .inl (E.2.1 0, 402, .inl ps)), (asl, .inl (E.2.1 0, 134, .inl sl)), (ah, .inl (E.2.1 0, 2, .inl hsl)), (ax, .inl (E.2.1 0, 80, .inl (fun j => nI (T j)))), (atd, .inl (E.2.1 0, 123, .inl td)), (av, .inl (E.2.1 0, 64, .inl va)), (ae, .inl (E.2.1 0, 64, .inl er))] [(0, .ref h), (1, .long pk), (3, .int (nI c9)), (4, .int (gB b9)), (5, .long l9)] [] 13 := by
    intro n_
    induction n_ with
    | zero => intro c9 b9 l9 hm_; exact absurd hm_ (Nat.not_lt_zero _)
    | succ n_ ih_L13 =>
      intro c9 b9 l9 hm_ hc9 he
      refine g_iload_n cx dX5_appendText_13 rfl ?_
      refine g_bipush cx dX5_appendText_14 kc_b8 ?_
      refine g_icmp_ge (tgt := 72) cx dX5_appendText_16 (by decide) (fun z1 => ?_) (fun z1 => ?_)
      ·
        have z1 := gn_le (a := 8) (b := c9) (by omega) (by omega) z1
        have he2 : rcn 8 0 true pk = (c9, b9, l9) := he.symm.trans (rcn_stop (Or.inl (by omega)))
        refine g_iload cx dX5_appendText_72 rfl ?_
        refine g_if_eq (tgt := 88) cx dX5_appendText_74 (by decide) (fun z2 => ?_) (fun z2 => ?_)
        ·
          have z2 := gB_eq0 z2
          refine g_aload_n cx dX5_appendText_88 rfl ?_
          refine g_iconst cx dX5_appendText_89 kc_i1 ?_
          refine g_callV (ws' := [(h, .inr (5, [.ref an, .ref ap_, .ref asl, .ref ah, .int (nI hN), .ref ax, .int (nI tyN), .int (nI 1), .int (nI at_), .ref atd, .int (nI tlN), .ref av, .ref ae, .int go])), (an, .inl (E.2.1 0, 67, .inl nw)), (ap_, .inl (E.2.1 0, 402, .inl ps)), (asl, .inl (E.2.1 0, 134, .inl sl)), (ah, .inl (E.2.1 0, 2, .inl hsl)), (ax, .inl (E.2.1 0, 80, .inl (fun j => nI (T j)))), (atd, .inl (E.2.1 0, 123, .inl td)), (av, .inl (E.2.1 0, 64, .inl va)), (ae, .inl (E.2.1 0, 64, .inl er))]) (As := [.int (nI 1)]) (rest := []) (n := 1) (T := TX5) (N := 14) (ci := 5) cx (c_X5_fails l E h an ap_ asl ah ax atd av ae nw ps sl hsl td va er T hN tyN at_ tlN (nI 0) go (nI 1) ) gX5_appendText_X5_fails rfl (by decide +kernel) rfl rfl ⟨Nat.le_of_ble_eq_true rfl, Nat.le_of_ble_eq_true rfl⟩ ⟨Nat.zero_le _, Nat.zero_le _⟩ [0, 1, 2, 3, 4, 5, 6, 7, 8] 0 rfl rfl (by decide) rfl rfl rfl rfl (Nat.le_of_ble_eq_true rfl) dX5_appendText_90 ?_
          exact g_iretE cx dX5_appendText_93 (rfl) (rfl)
        ·
          have z2 := gB_ne0 z2
          refine g_iload_n cx dX5_appendText_77 rfl ?_
          refine g_if_eq (tgt := 88) cx dX5_appendText_78 (by decide) (fun z3 => ?_) (fun z3 => ?_)
          ·
            have z3 := gn_eq0 (by omega) z3
            refine g_aload_n cx dX5_appendText_88 rfl ?_
            refine g_iconst cx dX5_appendText_89 kc_i1 ?_
            refine g_callV (ws' := [(h, .inr (5, [.ref an, .ref ap_, .ref asl, .ref ah, .int (nI hN), .ref ax, .int (nI tyN), .int (nI 1), .int (nI at_), .ref atd, .int (nI tlN), .ref av, .ref ae, .int go])), (an, .inl (E.2.1 0, 67, .inl nw)), (ap_, .inl (E.2.1 0, 402, .inl ps)), (asl, .inl (E.2.1 0, 134, .inl sl)), (ah, .inl (E.2.1 0, 2, .inl hsl)), (ax, .inl (E.2.1 0, 80, .inl (fun j => nI (T j)))), (atd, .inl (E.2.1 0, 123, .inl td)), (av, .inl (E.2.1 0, 64, .inl va)), (ae, .inl (E.2.1 0, 64, .inl er))]) (As := [.int (nI 1)]) (rest := []) (n := 1) (T := TX5) (N := 14) (ci := 5) cx (c_X5_fails l E h an ap_ asl ah ax atd av ae nw ps sl hsl td va er T hN tyN at_ tlN (nI 0) go (nI 1) ) gX5_appendText_X5_fails rfl (by decide +kernel) rfl rfl ⟨Nat.le_of_ble_eq_true rfl, Nat.le_of_ble_eq_true rfl⟩ ⟨Nat.zero_le _, Nat.zero_le _⟩ [0, 1, 2, 3, 4, 5, 6, 7, 8] 0 rfl rfl (by decide) rfl rfl rfl rfl (Nat.le_of_ble_eq_true rfl) dX5_appendText_90 ?_
            exact g_iretE cx dX5_appendText_93 (rfl) (rfl)
          ·
            have z3 := gn_ne0 z3
            refine g_lload cx dX5_appendText_81 rfl ?_
            refine g_lconst (v := 0) cx dX5_appendText_83 rfl ?_
            refine g_lcmp cx dX5_appendText_84 ?_
            refine g_if_eq (tgt := 94) cx dX5_appendText_85 (by decide) (fun z4 => ?_) (fun z4 => ?_)
            ·
              have z4 := lg_cmp_0.mp z4
              exact absurd (show (rcn 8 0 true pk).2.1 = true ∧ ¬ (rcn 8 0 true pk).1 = 0 ∧ (rcn 8 0 true pk).2.2 = 0 from by rw [he2]; exact ⟨z2, by omega, z4⟩) hz
            ·
              have z4 := lg_ne z4
              refine g_aload_n cx dX5_appendText_88 rfl ?_
              refine g_iconst cx dX5_appendText_89 kc_i1 ?_
              refine g_callV (ws' := [(h, .inr (5, [.ref an, .ref ap_, .ref asl, .ref ah, .int (nI hN), .ref ax, .int (nI tyN), .int (nI 1), .int (nI at_), .ref atd, .int (nI tlN), .ref av, .ref ae, .int go])), (an, .inl (E.2.1 0, 67, .inl nw)), (ap_, .inl (E.2.1 0, 402, .inl ps)), (asl, .inl (E.2.1 0, 134, .inl sl)), (ah, .inl (E.2.1 0, 2, .inl hsl)), (ax, .inl (E.2.1 0, 80, .inl (fun j => nI (T j)))), (atd, .inl (E.2.1 0, 123, .inl td)), (av, .inl (E.2.1 0, 64, .inl va)), (ae, .inl (E.2.1 0, 64, .inl er))]) (As := [.int (nI 1)]) (rest := []) (n := 1) (T := TX5) (N := 14) (ci := 5) cx (c_X5_fails l E h an ap_ asl ah ax atd av ae nw ps sl hsl td va er T hN tyN at_ tlN (nI 0) go (nI 1) ) gX5_appendText_X5_fails rfl (by decide +kernel) rfl rfl ⟨Nat.le_of_ble_eq_true rfl, Nat.le_of_ble_eq_true rfl⟩ ⟨Nat.zero_le _, Nat.zero_le _⟩ [0, 1, 2, 3, 4, 5, 6, 7, 8] 0 rfl rfl (by decide) rfl rfl rfl rfl (Nat.le_of_ble_eq_true rfl) dX5_appendText_90 ?_
              exact g_iretE cx dX5_appendText_93 (rfl) (rfl)
      ·
        have z1 := gn_nle (a := 8) (b := c9) (by omega) (by omega) z1
        refine g_lload cx dX5_appendText_19 rfl ?_
        refine g_ldc2 (v := 255) cx dX5_appendText_21 (by decide +kernel) ?_
        refine g_land cx dX5_appendText_24 ?_
        refine g_lconst (v := 0) cx dX5_appendText_25 rfl ?_
        refine g_lcmp cx dX5_appendText_26 ?_
        refine g_if_eq (tgt := 72) cx dX5_appendText_27 (by decide) (fun z5 => ?_) (fun z5 => ?_)
        ·
          have z5 := lg_cmp_0.mp z5
          have he2 : rcn 8 0 true pk = (c9, b9, l9) := he.symm.trans (rcn_stop (Or.inr z5))
          refine g_iload cx dX5_appendText_72 rfl ?_
          refine g_if_eq (tgt := 88) cx dX5_appendText_74 (by decide) (fun z6 => ?_) (fun z6 => ?_)
          ·
            have z6 := gB_eq0 z6
            refine g_aload_n cx dX5_appendText_88 rfl ?_
            refine g_iconst cx dX5_appendText_89 kc_i1 ?_
            refine g_callV (ws' := [(h, .inr (5, [.ref an, .ref ap_, .ref asl, .ref ah, .int (nI hN), .ref ax, .int (nI tyN), .int (nI 1), .int (nI at_), .ref atd, .int (nI tlN), .ref av, .ref ae, .int go])), (an, .inl (E.2.1 0, 67, .inl nw)), (ap_, .inl (E.2.1 0, 402, .inl ps)), (asl, .inl (E.2.1 0, 134, .inl sl)), (ah, .inl (E.2.1 0, 2, .inl hsl)), (ax, .inl (E.2.1 0, 80, .inl (fun j => nI (T j)))), (atd, .inl (E.2.1 0, 123, .inl td)), (av, .inl (E.2.1 0, 64, .inl va)), (ae, .inl (E.2.1 0, 64, .inl er))]) (As := [.int (nI 1)]) (rest := []) (n := 1) (T := TX5) (N := 14) (ci := 5) cx (c_X5_fails l E h an ap_ asl ah ax atd av ae nw ps sl hsl td va er T hN tyN at_ tlN (nI 0) go (nI 1) ) gX5_appendText_X5_fails rfl (by decide +kernel) rfl rfl ⟨Nat.le_of_ble_eq_true rfl, Nat.le_of_ble_eq_true rfl⟩ ⟨Nat.zero_le _, Nat.zero_le _⟩ [0, 1, 2, 3, 4, 5, 6, 7, 8] 0 rfl rfl (by decide) rfl rfl rfl rfl (Nat.le_of_ble_eq_true rfl) dX5_appendText_90 ?_
            exact g_iretE cx dX5_appendText_93 (rfl) (rfl)
          ·
            have z6 := gB_ne0 z6
            refine g_iload_n cx dX5_appendText_77 rfl ?_
            refine g_if_eq (tgt := 88) cx dX5_appendText_78 (by decide) (fun z7 => ?_) (fun z7 => ?_)
            ·
              have z7 := gn_eq0 (by omega) z7
              refine g_aload_n cx dX5_appendText_88 rfl ?_
              refine g_iconst cx dX5_appendText_89 kc_i1 ?_
              refine g_callV (ws' := [(h, .inr (5, [.ref an, .ref ap_, .ref asl, .ref ah, .int (nI hN), .ref ax, .int (nI tyN), .int (nI 1), .int (nI at_), .ref atd, .int (nI tlN), .ref av, .ref ae, .int go])), (an, .inl (E.2.1 0, 67, .inl nw)), (ap_, .inl (E.2.1 0, 402, .inl ps)), (asl, .inl (E.2.1 0, 134, .inl sl)), (ah, .inl (E.2.1 0, 2, .inl hsl)), (ax, .inl (E.2.1 0, 80, .inl (fun j => nI (T j)))), (atd, .inl (E.2.1 0, 123, .inl td)), (av, .inl (E.2.1 0, 64, .inl va)), (ae, .inl (E.2.1 0, 64, .inl er))]) (As := [.int (nI 1)]) (rest := []) (n := 1) (T := TX5) (N := 14) (ci := 5) cx (c_X5_fails l E h an ap_ asl ah ax atd av ae nw ps sl hsl td va er T hN tyN at_ tlN (nI 0) go (nI 1) ) gX5_appendText_X5_fails rfl (by decide +kernel) rfl rfl ⟨Nat.le_of_ble_eq_true rfl, Nat.le_of_ble_eq_true rfl⟩ ⟨Nat.zero_le _, Nat.zero_le _⟩ [0, 1, 2, 3, 4, 5, 6, 7, 8] 0 rfl rfl (by decide) rfl rfl rfl rfl (Nat.le_of_ble_eq_true rfl) dX5_appendText_90 ?_
              exact g_iretE cx dX5_appendText_93 (rfl) (rfl)
            ·
              have z7 := gn_ne0 z7
              refine g_lload cx dX5_appendText_81 rfl ?_
              refine g_lconst (v := 0) cx dX5_appendText_83 rfl ?_
              refine g_lcmp cx dX5_appendText_84 ?_
              refine g_if_eq (tgt := 94) cx dX5_appendText_85 (by decide) (fun z8 => ?_) (fun z8 => ?_)
              ·
                have z8 := lg_cmp_0.mp z8
                exact absurd (show (rcn 8 0 true pk).2.1 = true ∧ ¬ (rcn 8 0 true pk).1 = 0 ∧ (rcn 8 0 true pk).2.2 = 0 from by rw [he2]; exact ⟨z6, by omega, z8⟩) hz
              ·
                have z8 := lg_ne z8
                refine g_aload_n cx dX5_appendText_88 rfl ?_
                refine g_iconst cx dX5_appendText_89 kc_i1 ?_
                refine g_callV (ws' := [(h, .inr (5, [.ref an, .ref ap_, .ref asl, .ref ah, .int (nI hN), .ref ax, .int (nI tyN), .int (nI 1), .int (nI at_), .ref atd, .int (nI tlN), .ref av, .ref ae, .int go])), (an, .inl (E.2.1 0, 67, .inl nw)), (ap_, .inl (E.2.1 0, 402, .inl ps)), (asl, .inl (E.2.1 0, 134, .inl sl)), (ah, .inl (E.2.1 0, 2, .inl hsl)), (ax, .inl (E.2.1 0, 80, .inl (fun j => nI (T j)))), (atd, .inl (E.2.1 0, 123, .inl td)), (av, .inl (E.2.1 0, 64, .inl va)), (ae, .inl (E.2.1 0, 64, .inl er))]) (As := [.int (nI 1)]) (rest := []) (n := 1) (T := TX5) (N := 14) (ci := 5) cx (c_X5_fails l E h an ap_ asl ah ax atd av ae nw ps sl hsl td va er T hN tyN at_ tlN (nI 0) go (nI 1) ) gX5_appendText_X5_fails rfl (by decide +kernel) rfl rfl ⟨Nat.le_of_ble_eq_true rfl, Nat.le_of_ble_eq_true rfl⟩ ⟨Nat.zero_le _, Nat.zero_le _⟩ [0, 1, 2, 3, 4, 5, 6, 7, 8] 0 rfl rfl (by decide) rfl rfl rfl rfl (Nat.le_of_ble_eq_true rfl) dX5_appendText_90 ?_
                exact g_iretE cx dX5_appendText_93 (rfl) (rfl)
        ·
          have z5 := lg_ne z5
          refine g_iload cx dX5_appendText_30 rfl ?_
          refine g_if_eq (tgt := 56) cx dX5_appendText_32 (by decide) (fun z9 => ?_) (fun z9 => ?_)
          ·
            have z9 := gB_eq0 z9
            refine g_iconst cx dX5_appendText_56 kc_i0 ?_
            refine g_top (show nI 0 = gB (b9 && bR ((l9 &&& 255).toInt32) 33 126) from gB_off (by rw [z9]; rfl)) ?_
            refine g_istore (lv' := [(4, .int (gB (b9 && bR ((l9 &&& 255).toInt32) 33 126))), (0, .ref h), (1, .long pk), (3, .int (nI c9)), (5, .long l9)]) cx dX5_appendText_57 (by decide) rfl ?_
            refine g_lload cx dX5_appendText_59 rfl ?_
            refine g_bipush cx dX5_appendText_61 kc_b8 ?_
            refine g_lushr cx dX5_appendText_63 rfl ?_
            refine g_lstore (lv' := [(5, .long ((l9.toUInt64 >>> ((nI 8).toInt64.toUInt64 &&& Int64.toUInt64 63)).toInt64)), (4, .int (gB (b9 && bR ((l9 &&& 255).toInt32) 33 126))), (0, .ref h), (1, .long pk), (3, .int (nI c9))]) cx dX5_appendText_64 (by decide) rfl ?_
            refine g_iinc (lv' := [(3, .int (nI (c9 + 1))), (5, .long ((l9.toUInt64 >>> ((nI 8).toInt64.toUInt64 &&& Int64.toUInt64 63)).toInt64)), (4, .int (gB (b9 && bR ((l9 &&& 255).toInt32) 33 126))), (0, .ref h), (1, .long pk)]) (k := 4) cx dX5_appendText_66 rfl (gn_inc1 c9) (by decide) rfl ?_
            refine g_goto (tgt := 13) cx dX5_appendText_69 (by decide) ?_
            refine g_lv [3, 4, 0, 2, 1] rfl ?_
            exact ih_L13 (c9 + 1) (b9 && bR ((l9 &&& 255).toInt32) 33 126) ((l9.toUInt64 >>> ((nI 8).toInt64.toUInt64 &&& Int64.toUInt64 63)).toInt64) (by omega) (by omega) ((rcn_go (by omega) (by assumption)).symm.trans he)
          ·
            have z9 := gB_ne0 z9
            refine g_lload cx dX5_appendText_35 rfl ?_
            refine g_ldc2 (v := 255) cx dX5_appendText_37 (by decide +kernel) ?_
            refine g_land cx dX5_appendText_40 ?_
            refine g_l2i cx dX5_appendText_41 rfl ?_
            refine g_bipush cx dX5_appendText_42 kc_b33 ?_
            refine g_bipush cx dX5_appendText_44 kc_b126 ?_
            refine g_callS (ws' := [(h, .inr (5, [.ref an, .ref ap_, .ref asl, .ref ah, .int (nI hN), .ref ax, .int (nI tyN), .int (nI 0), .int (nI at_), .ref atd, .int (nI tlN), .ref av, .ref ae, .int go])), (an, .inl (E.2.1 0, 67, .inl nw)), (ap_, .inl (E.2.1 0, 402, .inl ps)), (asl, .inl (E.2.1 0, 134, .inl sl)), (ah, .inl (E.2.1 0, 2, .inl hsl)), (ax, .inl (E.2.1 0, 80, .inl (fun j => nI (T j)))), (atd, .inl (E.2.1 0, 123, .inl td)), (av, .inl (E.2.1 0, 64, .inl va)), (ae, .inl (E.2.1 0, 64, .inl er))]) (As := [.int ((l9 &&& 255).toInt32), .int (nI 33), .int (nI 126)]) (rest := []) (n := 3) cx (c_X5_in l E ((l9 &&& 255).toInt32) 33 126 (by omega) (by omega)) gX5_appendText_X5_in rfl (by decide +kernel) rfl rfl ⟨Nat.le_of_ble_eq_true rfl, Nat.le_of_ble_eq_true rfl⟩ ⟨Nat.zero_le _, Nat.zero_le _⟩ [] (by decide) rfl rfl rfl rfl (Nat.le_of_ble_eq_true rfl) dX5_appendText_46 ?_
            refine g_if_eq (tgt := 56) cx dX5_appendText_49 (by decide) (fun z10 => ?_) (fun z10 => ?_)
            ·
              have z10 := gB_eq0 z10
              refine g_iconst cx dX5_appendText_56 kc_i0 ?_
              refine g_top (show nI 0 = gB (b9 && bR ((l9 &&& 255).toInt32) 33 126) from gB_off (by rw [z9, z10]; rfl)) ?_
              refine g_istore (lv' := [(4, .int (gB (b9 && bR ((l9 &&& 255).toInt32) 33 126))), (0, .ref h), (1, .long pk), (3, .int (nI c9)), (5, .long l9)]) cx dX5_appendText_57 (by decide) rfl ?_
              refine g_lload cx dX5_appendText_59 rfl ?_
              refine g_bipush cx dX5_appendText_61 kc_b8 ?_
              refine g_lushr cx dX5_appendText_63 rfl ?_
              refine g_lstore (lv' := [(5, .long ((l9.toUInt64 >>> ((nI 8).toInt64.toUInt64 &&& Int64.toUInt64 63)).toInt64)), (4, .int (gB (b9 && bR ((l9 &&& 255).toInt32) 33 126))), (0, .ref h), (1, .long pk), (3, .int (nI c9))]) cx dX5_appendText_64 (by decide) rfl ?_
              refine g_iinc (lv' := [(3, .int (nI (c9 + 1))), (5, .long ((l9.toUInt64 >>> ((nI 8).toInt64.toUInt64 &&& Int64.toUInt64 63)).toInt64)), (4, .int (gB (b9 && bR ((l9 &&& 255).toInt32) 33 126))), (0, .ref h), (1, .long pk)]) (k := 4) cx dX5_appendText_66 rfl (gn_inc1 c9) (by decide) rfl ?_
              refine g_goto (tgt := 13) cx dX5_appendText_69 (by decide) ?_
              refine g_lv [3, 4, 0, 2, 1] rfl ?_
              exact ih_L13 (c9 + 1) (b9 && bR ((l9 &&& 255).toInt32) 33 126) ((l9.toUInt64 >>> ((nI 8).toInt64.toUInt64 &&& Int64.toUInt64 63)).toInt64) (by omega) (by omega) ((rcn_go (by omega) (by assumption)).symm.trans he)
            ·
              have z10 := gB_ne0 z10
              refine g_iconst cx dX5_appendText_52 kc_i1 ?_
              refine g_goto (tgt := 57) cx dX5_appendText_53 (by decide) ?_
              refine g_top (show nI 1 = gB (b9 && bR ((l9 &&& 255).toInt32) 33 126) from gB_of (by rw [z9, z10]; rfl)) ?_
              refine g_istore (lv' := [(4, .int (gB (b9 && bR ((l9 &&& 255).toInt32) 33 126))), (0, .ref h), (1, .long pk), (3, .int (nI c9)), (5, .long l9)]) cx dX5_appendText_57 (by decide) rfl ?_
              refine g_lload cx dX5_appendText_59 rfl ?_
              refine g_bipush cx dX5_appendText_61 kc_b8 ?_
              refine g_lushr cx dX5_appendText_63 rfl ?_
              refine g_lstore (lv' := [(5, .long ((l9.toUInt64 >>> ((nI 8).toInt64.toUInt64 &&& Int64.toUInt64 63)).toInt64)), (4, .int (gB (b9 && bR ((l9 &&& 255).toInt32) 33 126))), (0, .ref h), (1, .long pk), (3, .int (nI c9))]) cx dX5_appendText_64 (by decide) rfl ?_
              refine g_iinc (lv' := [(3, .int (nI (c9 + 1))), (5, .long ((l9.toUInt64 >>> ((nI 8).toInt64.toUInt64 &&& Int64.toUInt64 63)).toInt64)), (4, .int (gB (b9 && bR ((l9 &&& 255).toInt32) 33 126))), (0, .ref h), (1, .long pk)]) (k := 4) cx dX5_appendText_66 rfl (gn_inc1 c9) (by decide) rfl ?_
              refine g_goto (tgt := 13) cx dX5_appendText_69 (by decide) ?_
              refine g_lv [3, 4, 0, 2, 1] rfl ?_
              exact ih_L13 (c9 + 1) (b9 && bR ((l9 &&& 255).toInt32) 33 126) ((l9.toUInt64 >>> ((nI 8).toInt64.toUInt64 &&& Int64.toUInt64 63)).toInt64) (by omega) (by omega) ((rcn_go (by omega) (by assumption)).symm.trans he)
  refine g_lv [3, 4, 2, 1, 0] rfl ?_
  exact L13 (8 - 0 + 1) 0 true pk (by omega) (by omega) rfl
set_option maxRecDepth 100000 in
set_option maxHeartbeats 4000000 in
theorem c_X5_appendText_b (l : Launch) (E : gEnv) (h : Nat) (an : Nat) (ap_ : Nat) (asl : Nat) (ah : Nat) (ax : Nat) (atd : Nat) (av : Nat) (ae : Nat) (nw : Nat → Int32) (ps : Nat → Int32) (sl : Nat → Int32) (hsl : Nat → Int32) (td : Nat → Int32) (va : Nat → Int32) (er : Nat → Int32) (T : Nat → Nat) (hN : Nat) (tyN : Nat) (at_ : Nat) (tlN : Nat) (th : Int32) (go : Int32) (pk : Int64) (k : Nat) (hty : tyN ≤ 80) (hT : ∀ j, T j < 128) (hz : rcn 8 0 true pk = (k, true, 0)) (hk : 1 ≤ k) (hk8 : k ≤ 8) (hr : 80 < tyN + k) : gM l yX5_appendText wsX5_appendText ({ frames := 1, cells := 0, slots := 0, locals := 22 } : Room) E [.ref h, .long pk] [(h, .inr (5, [.ref an, .ref ap_, .ref asl, .ref ah, .int (nI hN), .ref ax, .int (nI tyN), .int th, .int (nI at_), .ref atd, .int (nI tlN), .ref av, .ref ae, .int go])), (an, .inl (E.2.1 0, 67, .inl nw)), (ap_, .inl (E.2.1 0, 402, .inl ps)), (asl, .inl (E.2.1 0, 134, .inl sl)), (ah, .inl (E.2.1 0, 2, .inl hsl)), (ax, .inl (E.2.1 0, 80, .inl (fun j => nI (T j)))), (atd, .inl (E.2.1 0, 123, .inl td)), (av, .inl (E.2.1 0, 64, .inl va)), (ae, .inl (E.2.1 0, 64, .inl er))] [(h, .inr (5, [.ref an, .ref ap_, .ref asl, .ref ah, .int (nI hN), .ref ax, .int (nI tyN), .int (nI 2), .int (nI at_), .ref atd, .int (nI tlN), .ref av, .ref ae, .int go])), (an, .inl (E.2.1 0, 67, .inl nw)), (ap_, .inl (E.2.1 0, 402, .inl ps)), (asl, .inl (E.2.1 0, 134, .inl sl)), (ah, .inl (E.2.1 0, 2, .inl hsl)), (ax, .inl (E.2.1 0, 80, .inl (fun j => nI (T j)))), (atd, .inl (E.2.1 0, 123, .inl td)), (av, .inl (E.2.1 0, 64, .inl va)), (ae, .inl (E.2.1 0, 64, .inl er))] (some (.int (nI 0))) := by
  refine gM.ofG (cc := cX5_appendText) (nL := 8) (ret := (some .int)) (own := RX5) [(0, .ref h), (1, .long pk)] (by decide) rfl rfl (Nat.le_of_ble_eq_true rfl) rfl rfl ?_
  intro pX eX sX mX bX tX cX A cx
  have hiX5 : ∀ w ∈ u_ws RX5 TX5 14, w ∈ wsX5_appendText := by decide +kernel
  refine g_aload_n cx dX5_appendText_0 rfl ?_
  refine g_iconst cx dX5_appendText_1 kc_i0 ?_
  refine g_put (ws' := [(h, .inr (5, [.ref an, .ref ap_, .ref asl, .ref ah, .int (nI hN), .ref ax, .int (nI tyN), .int (nI 0), .int (nI at_), .ref atd, .int (nI tlN), .ref av, .ref ae, .int go])), (an, .inl (E.2.1 0, 67, .inl nw)), (ap_, .inl (E.2.1 0, 402, .inl ps)), (asl, .inl (E.2.1 0, 134, .inl sl)), (ah, .inl (E.2.1 0, 2, .inl hsl)), (ax, .inl (E.2.1 0, 80, .inl (fun j => nI (T j)))), (atd, .inl (E.2.1 0, 123, .inl td)), (av, .inl (E.2.1 0, 64, .inl va)), (ae, .inl (E.2.1 0, 64, .inl er))]) (C := RX5) (T := TX5) (N := 14) (ci := 5) cx hiX5 tyX5 tyX5_ok nmX5 0 7 (by decide) rfl (by decide +kernel) rfl rfl rfl rfl rfl (Nat.le_of_ble_eq_true rfl) rfl dX5_appendText_2 ?_
  refine g_iconst cx dX5_appendText_5 kc_i0 ?_
  refine g_istore_n (lv' := [(3, .int (nI 0)), (0, .ref h), (1, .long pk)]) cx dX5_appendText_6 rfl (by decide) rfl ?_
  refine g_iconst cx dX5_appendText_7 kc_i1 ?_
  refine g_top (show nI 1 = gB true from gB_t) ?_
  refine g_istore (lv' := [(4, .int (gB true)), (3, .int (nI 0)), (0, .ref h), (1, .long pk)]) cx dX5_appendText_8 (by decide) rfl ?_
  refine g_lload_n cx dX5_appendText_10 rfl ?_
  refine g_lstore (lv' := [(5, .long pk), (4, .int (gB true)), (3, .int (nI 0)), (0, .ref h), (1, .long pk)]) cx dX5_appendText_11 (by decide) rfl ?_
  have L13 : ∀ (n_ : Nat) (c9 : Nat) (b9 : Bool) (l9 : Int64), 8 - c9 < n_ → c9 ≤ 8 → rcn (8 - c9) c9 b9 l9 = rcn 8 0 true pk → gG pX l eX ({ frames := 1, cells := 0, slots := 0, locals := 22 } : Room) sX mX ([.ref h, .long pk] : List Value).toArray bX tX cX 8 E A (MQ bX (gQ E [(h, .inr (5, [.ref an, .ref ap_, .ref asl, .ref ah, .int (nI hN), .ref ax, .int (nI tyN), .int (nI 2), .int (nI at_), .ref atd, .int (nI tlN), .ref av, .ref ae, .int go])), (an, .inl (E.2.1 0, 67, .inl nw)), (ap_, .inl (E.2.1 0, 402, .inl ps)), (asl, .inl (E.2.1 0, 134, .inl sl)), (ah, .inl (E.2.1 0, 2, .inl hsl)), (ax, .inl (E.2.1 0, 80, .inl (fun j => nI (T j)))), (atd, .inl (E.2.1 0, 123, .inl td)), (av, .inl (E.2.1 0, 64, .inl va)), (ae, .inl (E.2.1 0, 64, .inl er))] (some (.int (nI 0))) A) ([.ref h, .long pk] : List Value).toArray sX 0 0 A) 0 0 [(h, .inr (5, [.ref an, .ref ap_, .ref asl, .ref ah, .int (nI hN), .ref ax, .int (nI tyN), .int (nI 0), .int (nI at_), .ref atd, .int (nI tlN), .ref av, .ref ae, .int go])), (an, .inl (E.2.1 0, 67, .inl nw)), (ap_, .inl (E.2.1 0, 402, .inl ps)), (asl, .inl (E.2.1 0, 134, .inl sl)), (ah, .inl (E.2.1 0, 2, .inl hsl)), (ax, .inl (E.2.1 0, 80, .inl (fun j => nI (T j)))), (atd, .inl (E.2.1 0, 123, .inl td)), (av, .inl (E.2.1 0, 64, .inl va)), (ae, .inl (E.2.1 0, 64, .inl er))] [(0, .ref h), (1, .long pk), (3, .int (nI c9)), (4, .int (gB b9)), (5, .long l9)] [] 13 := by
    intro n_
    induction n_ with
    | zero => intro c9 b9 l9 hm_; exact absurd hm_ (Nat.not_lt_zero _)
    | succ n_ ih_L13 =>
      intro c9 b9 l9 hm_ hc9 he
      refine g_iload_n cx dX5_appendText_13 rfl ?_
      refine g_bipush cx dX5_appendText_14 kc_b8 ?_
      refine g_icmp_ge (tgt := 72) cx dX5_appendText_16 (by decide) (fun z1 => ?_) (fun z1 => ?_)
      ·
        have z1 := gn_le (a := 8) (b := c9) (by omega) (by omega) z1
        have he2 : rcn 8 0 true pk = (c9, b9, l9) := he.symm.trans (rcn_stop (Or.inl (by omega)))
        have he3 := hz.symm.trans he2
        obtain ⟨hq1, hq2⟩ := Prod.mk.inj he3
        obtain ⟨hq2, hq3⟩ := Prod.mk.inj hq2
        obtain rfl : k = c9 := hq1
        obtain rfl : true = b9 := hq2
        obtain rfl : (0 : Int64) = l9 := hq3
        refine g_iload cx dX5_appendText_72 rfl ?_
        refine g_if_eq (tgt := 88) cx dX5_appendText_74 (by decide) (fun z2 => absurd ((rfl : true = true).symm.trans (gB_eq0 z2)) (by decide)) (fun z2 => ?_)
        have z2 := gB_ne0 z2
        refine g_iload_n cx dX5_appendText_77 rfl ?_
        refine g_if_eq (tgt := 88) cx dX5_appendText_78 (by decide) (fun z3 => ?_) (fun z3 => ?_)
        ·
          have z3 := gn_eq0 (by omega) z3
          exact absurd z3 (by omega)
        ·
          have z3 := gn_ne0 z3
          refine g_lload cx dX5_appendText_81 rfl ?_
          refine g_lconst (v := 0) cx dX5_appendText_83 rfl ?_
          refine g_lcmp cx dX5_appendText_84 ?_
          refine g_if_eq (tgt := 94) cx dX5_appendText_85 (by decide) (fun z4 => ?_) (fun z4 => ?_)
          ·
            have z4 := lg_cmp_0.mp z4
            refine g_aload_n cx dX5_appendText_94 rfl ?_
            refine g_get (C := RX5) (T := TX5) (N := 14) (ci := 5) cx hiX5 0 6 (by decide) rfl (by decide +kernel) rfl rfl dX5_appendText_95 ?_
            refine g_iload_n cx dX5_appendText_98 rfl ?_
            refine g_iadd cx dX5_appendText_99 ?_
            refine g_top (nI_add tyN k) ?_
            refine g_bipush cx dX5_appendText_100 kc_b80 ?_
            refine g_icmp_le (tgt := 111) cx dX5_appendText_102 (by decide) (fun z5 => absurd (gn_le (a := tyN + k) (b := 80) (by omega) (by omega) z5) (by omega)) (fun z5 => ?_)
            have z5 := gn_nle (a := tyN + k) (b := 80) (by omega) (by omega) z5
            refine g_aload_n cx dX5_appendText_105 rfl ?_
            refine g_iconst cx dX5_appendText_106 kc_i2 ?_
            refine g_callV (ws' := [(h, .inr (5, [.ref an, .ref ap_, .ref asl, .ref ah, .int (nI hN), .ref ax, .int (nI tyN), .int (nI 2), .int (nI at_), .ref atd, .int (nI tlN), .ref av, .ref ae, .int go])), (an, .inl (E.2.1 0, 67, .inl nw)), (ap_, .inl (E.2.1 0, 402, .inl ps)), (asl, .inl (E.2.1 0, 134, .inl sl)), (ah, .inl (E.2.1 0, 2, .inl hsl)), (ax, .inl (E.2.1 0, 80, .inl (fun j => nI (T j)))), (atd, .inl (E.2.1 0, 123, .inl td)), (av, .inl (E.2.1 0, 64, .inl va)), (ae, .inl (E.2.1 0, 64, .inl er))]) (As := [.int (nI 2)]) (rest := []) (n := 1) (T := TX5) (N := 14) (ci := 5) cx (c_X5_fails l E h an ap_ asl ah ax atd av ae nw ps sl hsl td va er T hN tyN at_ tlN (nI 0) go (nI 2) ) gX5_appendText_X5_fails rfl (by decide +kernel) rfl rfl ⟨Nat.le_of_ble_eq_true rfl, Nat.le_of_ble_eq_true rfl⟩ ⟨Nat.zero_le _, Nat.zero_le _⟩ [0, 1, 2, 3, 4, 5, 6, 7, 8] 0 rfl rfl (by decide) rfl rfl rfl rfl (Nat.le_of_ble_eq_true rfl) dX5_appendText_107 ?_
            exact g_iretE cx dX5_appendText_110 (rfl) (rfl)
          ·
            have z4 := lg_ne z4
            exact absurd rfl z4
      ·
        have z1 := gn_nle (a := 8) (b := c9) (by omega) (by omega) z1
        refine g_lload cx dX5_appendText_19 rfl ?_
        refine g_ldc2 (v := 255) cx dX5_appendText_21 (by decide +kernel) ?_
        refine g_land cx dX5_appendText_24 ?_
        refine g_lconst (v := 0) cx dX5_appendText_25 rfl ?_
        refine g_lcmp cx dX5_appendText_26 ?_
        refine g_if_eq (tgt := 72) cx dX5_appendText_27 (by decide) (fun z6 => ?_) (fun z6 => ?_)
        ·
          have z6 := lg_cmp_0.mp z6
          have he2 : rcn 8 0 true pk = (c9, b9, l9) := he.symm.trans (rcn_stop (Or.inr z6))
          have he3 := hz.symm.trans he2
          obtain ⟨hq1, hq2⟩ := Prod.mk.inj he3
          obtain ⟨hq2, hq3⟩ := Prod.mk.inj hq2
          obtain rfl : k = c9 := hq1
          obtain rfl : true = b9 := hq2
          obtain rfl : (0 : Int64) = l9 := hq3
          refine g_iload cx dX5_appendText_72 rfl ?_
          refine g_if_eq (tgt := 88) cx dX5_appendText_74 (by decide) (fun z7 => absurd ((rfl : true = true).symm.trans (gB_eq0 z7)) (by decide)) (fun z7 => ?_)
          have z7 := gB_ne0 z7
          refine g_iload_n cx dX5_appendText_77 rfl ?_
          refine g_if_eq (tgt := 88) cx dX5_appendText_78 (by decide) (fun z8 => ?_) (fun z8 => ?_)
          ·
            have z8 := gn_eq0 (by omega) z8
            exact absurd z8 (by omega)
          ·
            have z8 := gn_ne0 z8
            refine g_lload cx dX5_appendText_81 rfl ?_
            refine g_lconst (v := 0) cx dX5_appendText_83 rfl ?_
            refine g_lcmp cx dX5_appendText_84 ?_
            refine g_if_eq (tgt := 94) cx dX5_appendText_85 (by decide) (fun z9 => ?_) (fun z9 => ?_)
            ·
              have z9 := lg_cmp_0.mp z9
              refine g_aload_n cx dX5_appendText_94 rfl ?_
              refine g_get (C := RX5) (T := TX5) (N := 14) (ci := 5) cx hiX5 0 6 (by decide) rfl (by decide +kernel) rfl rfl dX5_appendText_95 ?_
              refine g_iload_n cx dX5_appendText_98 rfl ?_
              refine g_iadd cx dX5_appendText_99 ?_
              refine g_top (nI_add tyN k) ?_
              refine g_bipush cx dX5_appendText_100 kc_b80 ?_
              refine g_icmp_le (tgt := 111) cx dX5_appendText_102 (by decide) (fun z10 => absurd (gn_le (a := tyN + k) (b := 80) (by omega) (by omega) z10) (by omega)) (fun z10 => ?_)
              have z10 := gn_nle (a := tyN + k) (b := 80) (by omega) (by omega) z10
              refine g_aload_n cx dX5_appendText_105 rfl ?_
              refine g_iconst cx dX5_appendText_106 kc_i2 ?_
              refine g_callV (ws' := [(h, .inr (5, [.ref an, .ref ap_, .ref asl, .ref ah, .int (nI hN), .ref ax, .int (nI tyN), .int (nI 2), .int (nI at_), .ref atd, .int (nI tlN), .ref av, .ref ae, .int go])), (an, .inl (E.2.1 0, 67, .inl nw)), (ap_, .inl (E.2.1 0, 402, .inl ps)), (asl, .inl (E.2.1 0, 134, .inl sl)), (ah, .inl (E.2.1 0, 2, .inl hsl)), (ax, .inl (E.2.1 0, 80, .inl (fun j => nI (T j)))), (atd, .inl (E.2.1 0, 123, .inl td)), (av, .inl (E.2.1 0, 64, .inl va)), (ae, .inl (E.2.1 0, 64, .inl er))]) (As := [.int (nI 2)]) (rest := []) (n := 1) (T := TX5) (N := 14) (ci := 5) cx (c_X5_fails l E h an ap_ asl ah ax atd av ae nw ps sl hsl td va er T hN tyN at_ tlN (nI 0) go (nI 2) ) gX5_appendText_X5_fails rfl (by decide +kernel) rfl rfl ⟨Nat.le_of_ble_eq_true rfl, Nat.le_of_ble_eq_true rfl⟩ ⟨Nat.zero_le _, Nat.zero_le _⟩ [0, 1, 2, 3, 4, 5, 6, 7, 8] 0 rfl rfl (by decide) rfl rfl rfl rfl (Nat.le_of_ble_eq_true rfl) dX5_appendText_107 ?_
              exact g_iretE cx dX5_appendText_110 (rfl) (rfl)
            ·
              have z9 := lg_ne z9
              exact absurd rfl z9
        ·
          have z6 := lg_ne z6
          refine g_iload cx dX5_appendText_30 rfl ?_
          refine g_if_eq (tgt := 56) cx dX5_appendText_32 (by decide) (fun z11 => ?_) (fun z11 => ?_)
          ·
            have z11 := gB_eq0 z11
            refine g_iconst cx dX5_appendText_56 kc_i0 ?_
            refine g_top (show nI 0 = gB (b9 && bR ((l9 &&& 255).toInt32) 33 126) from gB_off (by rw [z11]; rfl)) ?_
            refine g_istore (lv' := [(4, .int (gB (b9 && bR ((l9 &&& 255).toInt32) 33 126))), (0, .ref h), (1, .long pk), (3, .int (nI c9)), (5, .long l9)]) cx dX5_appendText_57 (by decide) rfl ?_
            refine g_lload cx dX5_appendText_59 rfl ?_
            refine g_bipush cx dX5_appendText_61 kc_b8 ?_
            refine g_lushr cx dX5_appendText_63 rfl ?_
            refine g_lstore (lv' := [(5, .long ((l9.toUInt64 >>> ((nI 8).toInt64.toUInt64 &&& Int64.toUInt64 63)).toInt64)), (4, .int (gB (b9 && bR ((l9 &&& 255).toInt32) 33 126))), (0, .ref h), (1, .long pk), (3, .int (nI c9))]) cx dX5_appendText_64 (by decide) rfl ?_
            refine g_iinc (lv' := [(3, .int (nI (c9 + 1))), (5, .long ((l9.toUInt64 >>> ((nI 8).toInt64.toUInt64 &&& Int64.toUInt64 63)).toInt64)), (4, .int (gB (b9 && bR ((l9 &&& 255).toInt32) 33 126))), (0, .ref h), (1, .long pk)]) (k := 4) cx dX5_appendText_66 rfl (gn_inc1 c9) (by decide) rfl ?_
            refine g_goto (tgt := 13) cx dX5_appendText_69 (by decide) ?_
            refine g_lv [3, 4, 0, 2, 1] rfl ?_
            exact ih_L13 (c9 + 1) (b9 && bR ((l9 &&& 255).toInt32) 33 126) ((l9.toUInt64 >>> ((nI 8).toInt64.toUInt64 &&& Int64.toUInt64 63)).toInt64) (by omega) (by omega) ((rcn_go (by omega) (by assumption)).symm.trans he)
          ·
            have z11 := gB_ne0 z11
            refine g_lload cx dX5_appendText_35 rfl ?_
            refine g_ldc2 (v := 255) cx dX5_appendText_37 (by decide +kernel) ?_
            refine g_land cx dX5_appendText_40 ?_
            refine g_l2i cx dX5_appendText_41 rfl ?_
            refine g_bipush cx dX5_appendText_42 kc_b33 ?_
            refine g_bipush cx dX5_appendText_44 kc_b126 ?_
            refine g_callS (ws' := [(h, .inr (5, [.ref an, .ref ap_, .ref asl, .ref ah, .int (nI hN), .ref ax, .int (nI tyN), .int (nI 0), .int (nI at_), .ref atd, .int (nI tlN), .ref av, .ref ae, .int go])), (an, .inl (E.2.1 0, 67, .inl nw)), (ap_, .inl (E.2.1 0, 402, .inl ps)), (asl, .inl (E.2.1 0, 134, .inl sl)), (ah, .inl (E.2.1 0, 2, .inl hsl)), (ax, .inl (E.2.1 0, 80, .inl (fun j => nI (T j)))), (atd, .inl (E.2.1 0, 123, .inl td)), (av, .inl (E.2.1 0, 64, .inl va)), (ae, .inl (E.2.1 0, 64, .inl er))]) (As := [.int ((l9 &&& 255).toInt32), .int (nI 33), .int (nI 126)]) (rest := []) (n := 3) cx (c_X5_in l E ((l9 &&& 255).toInt32) 33 126 (by omega) (by omega)) gX5_appendText_X5_in rfl (by decide +kernel) rfl rfl ⟨Nat.le_of_ble_eq_true rfl, Nat.le_of_ble_eq_true rfl⟩ ⟨Nat.zero_le _, Nat.zero_le _⟩ [] (by decide) rfl rfl rfl rfl (Nat.le_of_ble_eq_true rfl) dX5_appendText_46 ?_
            refine g_if_eq (tgt := 56) cx dX5_appendText_49 (by decide) (fun z12 => ?_) (fun z12 => ?_)
            ·
              have z12 := gB_eq0 z12
              refine g_iconst cx dX5_appendText_56 kc_i0 ?_
              refine g_top (show nI 0 = gB (b9 && bR ((l9 &&& 255).toInt32) 33 126) from gB_off (by rw [z11, z12]; rfl)) ?_
              refine g_istore (lv' := [(4, .int (gB (b9 && bR ((l9 &&& 255).toInt32) 33 126))), (0, .ref h), (1, .long pk), (3, .int (nI c9)), (5, .long l9)]) cx dX5_appendText_57 (by decide) rfl ?_
              refine g_lload cx dX5_appendText_59 rfl ?_
              refine g_bipush cx dX5_appendText_61 kc_b8 ?_
              refine g_lushr cx dX5_appendText_63 rfl ?_
              refine g_lstore (lv' := [(5, .long ((l9.toUInt64 >>> ((nI 8).toInt64.toUInt64 &&& Int64.toUInt64 63)).toInt64)), (4, .int (gB (b9 && bR ((l9 &&& 255).toInt32) 33 126))), (0, .ref h), (1, .long pk), (3, .int (nI c9))]) cx dX5_appendText_64 (by decide) rfl ?_
              refine g_iinc (lv' := [(3, .int (nI (c9 + 1))), (5, .long ((l9.toUInt64 >>> ((nI 8).toInt64.toUInt64 &&& Int64.toUInt64 63)).toInt64)), (4, .int (gB (b9 && bR ((l9 &&& 255).toInt32) 33 126))), (0, .ref h), (1, .long pk)]) (k := 4) cx dX5_appendText_66 rfl (gn_inc1 c9) (by decide) rfl ?_
              refine g_goto (tgt := 13) cx dX5_appendText_69 (by decide) ?_
              refine g_lv [3, 4, 0, 2, 1] rfl ?_
              exact ih_L13 (c9 + 1) (b9 && bR ((l9 &&& 255).toInt32) 33 126) ((l9.toUInt64 >>> ((nI 8).toInt64.toUInt64 &&& Int64.toUInt64 63)).toInt64) (by omega) (by omega) ((rcn_go (by omega) (by assumption)).symm.trans he)
            ·
              have z12 := gB_ne0 z12
              refine g_iconst cx dX5_appendText_52 kc_i1 ?_
              refine g_goto (tgt := 57) cx dX5_appendText_53 (by decide) ?_
              refine g_top (show nI 1 = gB (b9 && bR ((l9 &&& 255).toInt32) 33 126) from gB_of (by rw [z11, z12]; rfl)) ?_
              refine g_istore (lv' := [(4, .int (gB (b9 && bR ((l9 &&& 255).toInt32) 33 126))), (0, .ref h), (1, .long pk), (3, .int (nI c9)), (5, .long l9)]) cx dX5_appendText_57 (by decide) rfl ?_
              refine g_lload cx dX5_appendText_59 rfl ?_
              refine g_bipush cx dX5_appendText_61 kc_b8 ?_
              refine g_lushr cx dX5_appendText_63 rfl ?_
              refine g_lstore (lv' := [(5, .long ((l9.toUInt64 >>> ((nI 8).toInt64.toUInt64 &&& Int64.toUInt64 63)).toInt64)), (4, .int (gB (b9 && bR ((l9 &&& 255).toInt32) 33 126))), (0, .ref h), (1, .long pk), (3, .int (nI c9))]) cx dX5_appendText_64 (by decide) rfl ?_
              refine g_iinc (lv' := [(3, .int (nI (c9 + 1))), (5, .long ((l9.toUInt64 >>> ((nI 8).toInt64.toUInt64 &&& Int64.toUInt64 63)).toInt64)), (4, .int (gB (b9 && bR ((l9 &&& 255).toInt32) 33 126))), (0, .ref h), (1, .long pk)]) (k := 4) cx dX5_appendText_66 rfl (gn_inc1 c9) (by decide) rfl ?_
              refine g_goto (tgt := 13) cx dX5_appendText_69 (by decide) ?_
              refine g_lv [3, 4, 0, 2, 1] rfl ?_
              exact ih_L13 (c9 + 1) (b9 && bR ((l9 &&& 255).toInt32) 33 126) ((l9.toUInt64 >>> ((nI 8).toInt64.toUInt64 &&& Int64.toUInt64 63)).toInt64) (by omega) (by omega) ((rcn_go (by omega) (by assumption)).symm.trans he)
  refine g_lv [3, 4, 2, 1, 0] rfl ?_
  exact L13 (8 - 0 + 1) 0 true pk (by omega) (by omega) rfl
set_option maxRecDepth 100000 in
set_option maxHeartbeats 4000000 in
theorem c_X5_appendText_c (l : Launch) (E : gEnv) (h : Nat) (an : Nat) (ap_ : Nat) (asl : Nat) (ah : Nat) (ax : Nat) (atd : Nat) (av : Nat) (ae : Nat) (nw : Nat → Int32) (ps : Nat → Int32) (sl : Nat → Int32) (hsl : Nat → Int32) (td : Nat → Int32) (va : Nat → Int32) (er : Nat → Int32) (T : Nat → Nat) (hN : Nat) (tyN : Nat) (at_ : Nat) (tlN : Nat) (th : Int32) (go : Int32) (pk : Int64) (k : Nat) (hty : tyN ≤ 80) (hT : ∀ j, T j < 128) (hz : rcn 8 0 true pk = (k, true, 0)) (hk : 1 ≤ k) (hk8 : k ≤ 8) (hr : tyN + k ≤ 80) : gM l yX5_appendText wsX5_appendText ({ frames := 1, cells := 0, slots := 0, locals := 22 } : Room) E [.ref h, .long pk] [(h, .inr (5, [.ref an, .ref ap_, .ref asl, .ref ah, .int (nI hN), .ref ax, .int (nI tyN), .int th, .int (nI at_), .ref atd, .int (nI tlN), .ref av, .ref ae, .int go])), (an, .inl (E.2.1 0, 67, .inl nw)), (ap_, .inl (E.2.1 0, 402, .inl ps)), (asl, .inl (E.2.1 0, 134, .inl sl)), (ah, .inl (E.2.1 0, 2, .inl hsl)), (ax, .inl (E.2.1 0, 80, .inl (fun j => nI (T j)))), (atd, .inl (E.2.1 0, 123, .inl td)), (av, .inl (E.2.1 0, 64, .inl va)), (ae, .inl (E.2.1 0, 64, .inl er))] [(h, .inr (5, [.ref an, .ref ap_, .ref asl, .ref ah, .int (nI hN), .ref ax, .int (nI (tyN + k)), .int (nI 0), .int (nI at_), .ref atd, .int (nI tlN), .ref av, .ref ae, .int go])), (an, .inl (E.2.1 0, 67, .inl nw)), (ap_, .inl (E.2.1 0, 402, .inl ps)), (asl, .inl (E.2.1 0, 134, .inl sl)), (ah, .inl (E.2.1 0, 2, .inl hsl)), (ax, .inl (E.2.1 0, 80, .inl (fun j => nI (apT T tyN pk k 0 j)))), (atd, .inl (E.2.1 0, 123, .inl td)), (av, .inl (E.2.1 0, 64, .inl va)), (ae, .inl (E.2.1 0, 64, .inl er))] (some (.int (nI (tyN + k)))) := by
  refine gM.ofG (cc := cX5_appendText) (nL := 8) (ret := (some .int)) (own := RX5) [(0, .ref h), (1, .long pk)] (by decide) rfl rfl (Nat.le_of_ble_eq_true rfl) rfl rfl ?_
  intro pX eX sX mX bX tX cX A cx
  have hiX5 : ∀ w ∈ u_ws RX5 TX5 14, w ∈ wsX5_appendText := by decide +kernel
  refine g_aload_n cx dX5_appendText_0 rfl ?_
  refine g_iconst cx dX5_appendText_1 kc_i0 ?_
  refine g_put (ws' := [(h, .inr (5, [.ref an, .ref ap_, .ref asl, .ref ah, .int (nI hN), .ref ax, .int (nI tyN), .int (nI 0), .int (nI at_), .ref atd, .int (nI tlN), .ref av, .ref ae, .int go])), (an, .inl (E.2.1 0, 67, .inl nw)), (ap_, .inl (E.2.1 0, 402, .inl ps)), (asl, .inl (E.2.1 0, 134, .inl sl)), (ah, .inl (E.2.1 0, 2, .inl hsl)), (ax, .inl (E.2.1 0, 80, .inl (fun j => nI (T j)))), (atd, .inl (E.2.1 0, 123, .inl td)), (av, .inl (E.2.1 0, 64, .inl va)), (ae, .inl (E.2.1 0, 64, .inl er))]) (C := RX5) (T := TX5) (N := 14) (ci := 5) cx hiX5 tyX5 tyX5_ok nmX5 0 7 (by decide) rfl (by decide +kernel) rfl rfl rfl rfl rfl (Nat.le_of_ble_eq_true rfl) rfl dX5_appendText_2 ?_
  refine g_iconst cx dX5_appendText_5 kc_i0 ?_
  refine g_istore_n (lv' := [(3, .int (nI 0)), (0, .ref h), (1, .long pk)]) cx dX5_appendText_6 rfl (by decide) rfl ?_
  refine g_iconst cx dX5_appendText_7 kc_i1 ?_
  refine g_top (show nI 1 = gB true from gB_t) ?_
  refine g_istore (lv' := [(4, .int (gB true)), (3, .int (nI 0)), (0, .ref h), (1, .long pk)]) cx dX5_appendText_8 (by decide) rfl ?_
  refine g_lload_n cx dX5_appendText_10 rfl ?_
  refine g_lstore (lv' := [(5, .long pk), (4, .int (gB true)), (3, .int (nI 0)), (0, .ref h), (1, .long pk)]) cx dX5_appendText_11 (by decide) rfl ?_
  have L13 : ∀ (n_ : Nat) (c9 : Nat) (b9 : Bool) (l9 : Int64), 8 - c9 < n_ → c9 ≤ 8 → rcn (8 - c9) c9 b9 l9 = rcn 8 0 true pk → gG pX l eX ({ frames := 1, cells := 0, slots := 0, locals := 22 } : Room) sX mX ([.ref h, .long pk] : List Value).toArray bX tX cX 8 E A (MQ bX (gQ E [(h, .inr (5, [.ref an, .ref ap_, .ref asl, .ref ah, .int (nI hN), .ref ax, .int (nI (tyN + k)), .int (nI 0), .int (nI at_), .ref atd, .int (nI tlN), .ref av, .ref ae, .int go])), (an, .inl (E.2.1 0, 67, .inl nw)), (ap_, .inl (E.2.1 0, 402, .inl ps)), (asl, .inl (E.2.1 0, 134, .inl sl)), (ah, .inl (E.2.1 0, 2, .inl hsl)), (ax, .inl (E.2.1 0, 80, .inl (fun j => nI (apT T tyN pk k 0 j)))), (atd, .inl (E.2.1 0, 123, .inl td)), (av, .inl (E.2.1 0, 64, .inl va)), (ae, .inl (E.2.1 0, 64, .inl er))] (some (.int (nI (tyN + k)))) A) ([.ref h, .long pk] : List Value).toArray sX 0 0 A) 0 0 [(h, .inr (5, [.ref an, .ref ap_, .ref asl, .ref ah, .int (nI hN), .ref ax, .int (nI tyN), .int (nI 0), .int (nI at_), .ref atd, .int (nI tlN), .ref av, .ref ae, .int go])), (an, .inl (E.2.1 0, 67, .inl nw)), (ap_, .inl (E.2.1 0, 402, .inl ps)), (asl, .inl (E.2.1 0, 134, .inl sl)), (ah, .inl (E.2.1 0, 2, .inl hsl)), (ax, .inl (E.2.1 0, 80, .inl (fun j => nI (T j)))), (atd, .inl (E.2.1 0, 123, .inl td)), (av, .inl (E.2.1 0, 64, .inl va)), (ae, .inl (E.2.1 0, 64, .inl er))] [(0, .ref h), (1, .long pk), (3, .int (nI c9)), (4, .int (gB b9)), (5, .long l9)] [] 13 := by
    intro n_
    induction n_ with
    | zero => intro c9 b9 l9 hm_; exact absurd hm_ (Nat.not_lt_zero _)
    | succ n_ ih_L13 =>
      intro c9 b9 l9 hm_ hc9 he
      refine g_iload_n cx dX5_appendText_13 rfl ?_
      refine g_bipush cx dX5_appendText_14 kc_b8 ?_
      refine g_icmp_ge (tgt := 72) cx dX5_appendText_16 (by decide) (fun z1 => ?_) (fun z1 => ?_)
      ·
        have z1 := gn_le (a := 8) (b := c9) (by omega) (by omega) z1
        have he2 : rcn 8 0 true pk = (c9, b9, l9) := he.symm.trans (rcn_stop (Or.inl (by omega)))
        have he3 := hz.symm.trans he2
        obtain ⟨hq1, hq2⟩ := Prod.mk.inj he3
        obtain ⟨hq2, hq3⟩ := Prod.mk.inj hq2
        obtain rfl : k = c9 := hq1
        obtain rfl : true = b9 := hq2
        obtain rfl : (0 : Int64) = l9 := hq3
        refine g_iload cx dX5_appendText_72 rfl ?_
        refine g_if_eq (tgt := 88) cx dX5_appendText_74 (by decide) (fun z2 => absurd ((rfl : true = true).symm.trans (gB_eq0 z2)) (by decide)) (fun z2 => ?_)
        have z2 := gB_ne0 z2
        refine g_iload_n cx dX5_appendText_77 rfl ?_
        refine g_if_eq (tgt := 88) cx dX5_appendText_78 (by decide) (fun z3 => ?_) (fun z3 => ?_)
        ·
          have z3 := gn_eq0 (by omega) z3
          exact absurd z3 (by omega)
        ·
          have z3 := gn_ne0 z3
          refine g_lload cx dX5_appendText_81 rfl ?_
          refine g_lconst (v := 0) cx dX5_appendText_83 rfl ?_
          refine g_lcmp cx dX5_appendText_84 ?_
          refine g_if_eq (tgt := 94) cx dX5_appendText_85 (by decide) (fun z4 => ?_) (fun z4 => ?_)
          ·
            have z4 := lg_cmp_0.mp z4
            refine g_aload_n cx dX5_appendText_94 rfl ?_
            refine g_get (C := RX5) (T := TX5) (N := 14) (ci := 5) cx hiX5 0 6 (by decide) rfl (by decide +kernel) rfl rfl dX5_appendText_95 ?_
            refine g_iload_n cx dX5_appendText_98 rfl ?_
            refine g_iadd cx dX5_appendText_99 ?_
            refine g_top (nI_add tyN k) ?_
            refine g_bipush cx dX5_appendText_100 kc_b80 ?_
            refine g_icmp_le (tgt := 111) cx dX5_appendText_102 (by decide) (fun z5 => ?_) (fun z5 => absurd (gn_nle (a := tyN + k) (b := 80) (by omega) (by omega) z5) (by omega))
            have z5 := gn_le (a := tyN + k) (b := 80) (by omega) (by omega) z5
            refine g_iload_n cx dX5_appendText_111 rfl ?_
            refine g_iconst cx dX5_appendText_112 kc_i1 ?_
            refine g_isub cx dX5_appendText_113 ?_
            refine g_istore (lv' := [(7, .int ((nI k) - (nI 1))), (0, .ref h), (1, .long pk), (3, .int (nI k)), (4, .int (gB true)), (5, .long 0)]) cx dX5_appendText_114 (by decide) rfl ?_
            have L116 : ∀ (n_ : Nat) (t : Nat), t < n_ → t ≤ k → gG pX l eX ({ frames := 1, cells := 0, slots := 0, locals := 22 } : Room) sX mX ([.ref h, .long pk] : List Value).toArray bX tX cX 8 E A (MQ bX (gQ E [(h, .inr (5, [.ref an, .ref ap_, .ref asl, .ref ah, .int (nI hN), .ref ax, .int (nI (tyN + k)), .int (nI 0), .int (nI at_), .ref atd, .int (nI tlN), .ref av, .ref ae, .int go])), (an, .inl (E.2.1 0, 67, .inl nw)), (ap_, .inl (E.2.1 0, 402, .inl ps)), (asl, .inl (E.2.1 0, 134, .inl sl)), (ah, .inl (E.2.1 0, 2, .inl hsl)), (ax, .inl (E.2.1 0, 80, .inl (fun j => nI (apT T tyN pk k 0 j)))), (atd, .inl (E.2.1 0, 123, .inl td)), (av, .inl (E.2.1 0, 64, .inl va)), (ae, .inl (E.2.1 0, 64, .inl er))] (some (.int (nI (tyN + k)))) A) ([.ref h, .long pk] : List Value).toArray sX 0 0 A) 0 0 [(h, .inr (5, [.ref an, .ref ap_, .ref asl, .ref ah, .int (nI hN), .ref ax, .int (nI (tyN + (k - t))), .int (nI 0), .int (nI at_), .ref atd, .int (nI tlN), .ref av, .ref ae, .int go])), (an, .inl (E.2.1 0, 67, .inl nw)), (ap_, .inl (E.2.1 0, 402, .inl ps)), (asl, .inl (E.2.1 0, 134, .inl sl)), (ah, .inl (E.2.1 0, 2, .inl hsl)), (ax, .inl (E.2.1 0, 80, .inl (fun j => nI (apT T tyN pk k t j)))), (atd, .inl (E.2.1 0, 123, .inl td)), (av, .inl (E.2.1 0, 64, .inl va)), (ae, .inl (E.2.1 0, 64, .inl er))] [(0, .ref h), (1, .long pk), (7, .int (nI t - 1))] [] 116 := by
              intro n_
              induction n_ with
              | zero => intro t hm_; exact absurd hm_ (Nat.not_lt_zero _)
              | succ n_ ih_L116 =>
                intro t hm_ ht
                refine g_iload cx dX5_appendText_116 rfl ?_
                refine g_if_lt (tgt := 158) cx dX5_appendText_118 (by decide) (fun z6 => ?_) (fun z6 => ?_)
                ·
                  have z6 := gi0_lt z6
                  obtain rfl : t = 0 := tz_0 (by omega) (by assumption)
                  refine g_aload_n cx dX5_appendText_158 rfl ?_
                  refine g_get (C := RX5) (T := TX5) (N := 14) (ci := 5) cx hiX5 0 6 (by decide) rfl (by decide +kernel) rfl rfl dX5_appendText_159 ?_
                  exact g_iretE cx dX5_appendText_162 (rfl) (rfl)
                ·
                  have z6 := gi0_nlt z6
                  obtain ⟨t9, rfl⟩ : ∃ z, t = z + 1 := tz_s (by omega) (by assumption)
                  rw [nI_pred t9]
                  refine g_aload_n cx dX5_appendText_121 rfl ?_
                  refine g_get (C := RX5) (T := TX5) (N := 14) (ci := 5) cx hiX5 0 5 (by decide) rfl (by decide +kernel) rfl rfl dX5_appendText_122 ?_
                  refine g_aload_n cx dX5_appendText_125 rfl ?_
                  refine g_get (C := RX5) (T := TX5) (N := 14) (ci := 5) cx hiX5 0 6 (by decide) rfl (by decide +kernel) rfl rfl dX5_appendText_126 ?_
                  refine g_lload_n cx dX5_appendText_129 rfl ?_
                  refine g_bipush cx dX5_appendText_130 kc_b8 ?_
                  refine g_iload cx dX5_appendText_132 rfl ?_
                  refine g_imul cx dX5_appendText_134 ?_
                  refine g_top (pk_mul 8 t9) ?_
                  refine g_lushr cx dX5_appendText_135 rfl ?_
                  refine g_ldc2 (v := 255) cx dX5_appendText_136 (by decide +kernel) ?_
                  refine g_land cx dX5_appendText_139 ?_
                  refine g_l2i cx dX5_appendText_140 rfl ?_
                  refine g_top (show ((((pk.toUInt64 >>> ((nI (8 * t9)).toInt64.toUInt64 &&& Int64.toUInt64 63)).toInt64) &&& 255).toInt32) = nI (byN pk t9) from (lo_nI (byN_lt pk t9))) ?_
                  refine g_iast (ws' := [(h, .inr (5, [.ref an, .ref ap_, .ref asl, .ref ah, .int (nI hN), .ref ax, .int (nI (tyN + (k - (t9 + 1)))), .int (nI 0), .int (nI at_), .ref atd, .int (nI tlN), .ref av, .ref ae, .int go])), (an, .inl (E.2.1 0, 67, .inl nw)), (ap_, .inl (E.2.1 0, 402, .inl ps)), (asl, .inl (E.2.1 0, 134, .inl sl)), (ah, .inl (E.2.1 0, 2, .inl hsl)), (ax, .inl (E.2.1 0, 80, .inl (upd (fun j => nI (apT T tyN pk k (t9 + 1) j)) (tyN + (k - (t9 + 1))) (nI (byN pk t9))))), (atd, .inl (E.2.1 0, 123, .inl td)), (av, .inl (E.2.1 0, 64, .inl va)), (ae, .inl (E.2.1 0, 64, .inl er))]) cx 5 rfl rfl (vp_in_nI (by omega) (by omega)) (by rw [nI_clamp (by omega)]; rfl) dX5_appendText_141 ?_
                  refine g_ws (ws' := [(h, .inr (5, [.ref an, .ref ap_, .ref asl, .ref ah, .int (nI hN), .ref ax, .int (nI (tyN + (k - (t9 + 1)))), .int (nI 0), .int (nI at_), .ref atd, .int (nI tlN), .ref av, .ref ae, .int go])), (an, .inl (E.2.1 0, 67, .inl nw)), (ap_, .inl (E.2.1 0, 402, .inl ps)), (asl, .inl (E.2.1 0, 134, .inl sl)), (ah, .inl (E.2.1 0, 2, .inl hsl)), (ax, .inl (E.2.1 0, 80, .inl (fun j => nI (apT T tyN pk k t9 j)))), (atd, .inl (E.2.1 0, 123, .inl td)), (av, .inl (E.2.1 0, 64, .inl va)), (ae, .inl (E.2.1 0, 64, .inl er))]) (by rw [apT_s _ _ _ _ _ (by omega)]) ?_
                  refine g_aload_n cx dX5_appendText_142 rfl ?_
                  refine g_dup cx dX5_appendText_143 rfl ?_
                  refine g_get (C := RX5) (T := TX5) (N := 14) (ci := 5) cx hiX5 0 6 (by decide) rfl (by decide +kernel) rfl rfl dX5_appendText_144 ?_
                  refine g_iconst cx dX5_appendText_147 kc_i1 ?_
                  refine g_iadd cx dX5_appendText_148 ?_
                  refine g_top (nI_add (tyN + (k - (t9 + 1))) 1) ?_
                  refine g_put (ws' := [(h, .inr (5, [.ref an, .ref ap_, .ref asl, .ref ah, .int (nI hN), .ref ax, .int (nI ((tyN + (k - (t9 + 1))) + 1)), .int (nI 0), .int (nI at_), .ref atd, .int (nI tlN), .ref av, .ref ae, .int go])), (an, .inl (E.2.1 0, 67, .inl nw)), (ap_, .inl (E.2.1 0, 402, .inl ps)), (asl, .inl (E.2.1 0, 134, .inl sl)), (ah, .inl (E.2.1 0, 2, .inl hsl)), (ax, .inl (E.2.1 0, 80, .inl (fun j => nI (apT T tyN pk k t9 j)))), (atd, .inl (E.2.1 0, 123, .inl td)), (av, .inl (E.2.1 0, 64, .inl va)), (ae, .inl (E.2.1 0, 64, .inl er))]) (C := RX5) (T := TX5) (N := 14) (ci := 5) cx hiX5 tyX5 tyX5_ok nmX5 0 6 (by decide) rfl (by decide +kernel) rfl rfl rfl rfl rfl (Nat.le_of_ble_eq_true rfl) rfl dX5_appendText_149 ?_
                  refine g_iinc (lv' := [(7, .int (nI t9 - 1)), (0, .ref h), (1, .long pk)]) (k := 2) cx dX5_appendText_152 rfl (dec1 _) (by decide) rfl ?_
                  refine g_goto (tgt := 116) cx dX5_appendText_155 (by decide) ?_
                  rw [show tyN + (k - (t9 + 1)) + 1 = tyN + (k - t9) from by omega]
                  refine g_lv [1, 2, 0] rfl ?_
                  exact ih_L116 t9 (by omega) (by omega)
            refine g_ws (ws' := [(h, .inr (5, [.ref an, .ref ap_, .ref asl, .ref ah, .int (nI hN), .ref ax, .int (nI (tyN + (k - k))), .int (nI 0), .int (nI at_), .ref atd, .int (nI tlN), .ref av, .ref ae, .int go])), (an, .inl (E.2.1 0, 67, .inl nw)), (ap_, .inl (E.2.1 0, 402, .inl ps)), (asl, .inl (E.2.1 0, 134, .inl sl)), (ah, .inl (E.2.1 0, 2, .inl hsl)), (ax, .inl (E.2.1 0, 80, .inl (fun j => nI (apT T tyN pk k k j)))), (atd, .inl (E.2.1 0, 123, .inl td)), (av, .inl (E.2.1 0, 64, .inl va)), (ae, .inl (E.2.1 0, 64, .inl er))]) (by rw [apT_0, Nat.sub_self]; rfl) ?_
            refine g_lv [1, 2, 0] rfl ?_
            exact L116 (k + 1) k (by omega) (by omega)
          ·
            have z4 := lg_ne z4
            exact absurd rfl z4
      ·
        have z1 := gn_nle (a := 8) (b := c9) (by omega) (by omega) z1
        refine g_lload cx dX5_appendText_19 rfl ?_
        refine g_ldc2 (v := 255) cx dX5_appendText_21 (by decide +kernel) ?_
        refine g_land cx dX5_appendText_24 ?_
        refine g_lconst (v := 0) cx dX5_appendText_25 rfl ?_
        refine g_lcmp cx dX5_appendText_26 ?_
        refine g_if_eq (tgt := 72) cx dX5_appendText_27 (by decide) (fun z7 => ?_) (fun z7 => ?_)
        ·
          have z7 := lg_cmp_0.mp z7
          have he2 : rcn 8 0 true pk = (c9, b9, l9) := he.symm.trans (rcn_stop (Or.inr z7))
          have he3 := hz.symm.trans he2
          obtain ⟨hq1, hq2⟩ := Prod.mk.inj he3
          obtain ⟨hq2, hq3⟩ := Prod.mk.inj hq2
          obtain rfl : k = c9 := hq1
          obtain rfl : true = b9 := hq2
          obtain rfl : (0 : Int64) = l9 := hq3
          refine g_iload cx dX5_appendText_72 rfl ?_
          refine g_if_eq (tgt := 88) cx dX5_appendText_74 (by decide) (fun z8 => absurd ((rfl : true = true).symm.trans (gB_eq0 z8)) (by decide)) (fun z8 => ?_)
          have z8 := gB_ne0 z8
          refine g_iload_n cx dX5_appendText_77 rfl ?_
          refine g_if_eq (tgt := 88) cx dX5_appendText_78 (by decide) (fun z9 => ?_) (fun z9 => ?_)
          ·
            have z9 := gn_eq0 (by omega) z9
            exact absurd z9 (by omega)
          ·
            have z9 := gn_ne0 z9
            refine g_lload cx dX5_appendText_81 rfl ?_
            refine g_lconst (v := 0) cx dX5_appendText_83 rfl ?_
            refine g_lcmp cx dX5_appendText_84 ?_
            refine g_if_eq (tgt := 94) cx dX5_appendText_85 (by decide) (fun z10 => ?_) (fun z10 => ?_)
            ·
              have z10 := lg_cmp_0.mp z10
              refine g_aload_n cx dX5_appendText_94 rfl ?_
              refine g_get (C := RX5) (T := TX5) (N := 14) (ci := 5) cx hiX5 0 6 (by decide) rfl (by decide +kernel) rfl rfl dX5_appendText_95 ?_
              refine g_iload_n cx dX5_appendText_98 rfl ?_
              refine g_iadd cx dX5_appendText_99 ?_
              refine g_top (nI_add tyN k) ?_
              refine g_bipush cx dX5_appendText_100 kc_b80 ?_
              refine g_icmp_le (tgt := 111) cx dX5_appendText_102 (by decide) (fun z11 => ?_) (fun z11 => absurd (gn_nle (a := tyN + k) (b := 80) (by omega) (by omega) z11) (by omega))
              have z11 := gn_le (a := tyN + k) (b := 80) (by omega) (by omega) z11
              refine g_iload_n cx dX5_appendText_111 rfl ?_
              refine g_iconst cx dX5_appendText_112 kc_i1 ?_
              refine g_isub cx dX5_appendText_113 ?_
              refine g_istore (lv' := [(7, .int ((nI k) - (nI 1))), (0, .ref h), (1, .long pk), (3, .int (nI k)), (4, .int (gB true)), (5, .long 0)]) cx dX5_appendText_114 (by decide) rfl ?_
              have L116 : ∀ (n_ : Nat) (t : Nat), t < n_ → t ≤ k → gG pX l eX ({ frames := 1, cells := 0, slots := 0, locals := 22 } : Room) sX mX ([.ref h, .long pk] : List Value).toArray bX tX cX 8 E A (MQ bX (gQ E [(h, .inr (5, [.ref an, .ref ap_, .ref asl, .ref ah, .int (nI hN), .ref ax, .int (nI (tyN + k)), .int (nI 0), .int (nI at_), .ref atd, .int (nI tlN), .ref av, .ref ae, .int go])), (an, .inl (E.2.1 0, 67, .inl nw)), (ap_, .inl (E.2.1 0, 402, .inl ps)), (asl, .inl (E.2.1 0, 134, .inl sl)), (ah, .inl (E.2.1 0, 2, .inl hsl)), (ax, .inl (E.2.1 0, 80, .inl (fun j => nI (apT T tyN pk k 0 j)))), (atd, .inl (E.2.1 0, 123, .inl td)), (av, .inl (E.2.1 0, 64, .inl va)), (ae, .inl (E.2.1 0, 64, .inl er))] (some (.int (nI (tyN + k)))) A) ([.ref h, .long pk] : List Value).toArray sX 0 0 A) 0 0 [(h, .inr (5, [.ref an, .ref ap_, .ref asl, .ref ah, .int (nI hN), .ref ax, .int (nI (tyN + (k - t))), .int (nI 0), .int (nI at_), .ref atd, .int (nI tlN), .ref av, .ref ae, .int go])), (an, .inl (E.2.1 0, 67, .inl nw)), (ap_, .inl (E.2.1 0, 402, .inl ps)), (asl, .inl (E.2.1 0, 134, .inl sl)), (ah, .inl (E.2.1 0, 2, .inl hsl)), (ax, .inl (E.2.1 0, 80, .inl (fun j => nI (apT T tyN pk k t j)))), (atd, .inl (E.2.1 0, 123, .inl td)), (av, .inl (E.2.1 0, 64, .inl va)), (ae, .inl (E.2.1 0, 64, .inl er))] [(0, .ref h), (1, .long pk), (7, .int (nI t - 1))] [] 116 := by
                intro n_
                induction n_ with
                | zero => intro t hm_; exact absurd hm_ (Nat.not_lt_zero _)
                | succ n_ ih_L116 =>
                  intro t hm_ ht
                  refine g_iload cx dX5_appendText_116 rfl ?_
                  refine g_if_lt (tgt := 158) cx dX5_appendText_118 (by decide) (fun z12 => ?_) (fun z12 => ?_)
                  ·
                    have z12 := gi0_lt z12
                    obtain rfl : t = 0 := tz_0 (by omega) (by assumption)
                    refine g_aload_n cx dX5_appendText_158 rfl ?_
                    refine g_get (C := RX5) (T := TX5) (N := 14) (ci := 5) cx hiX5 0 6 (by decide) rfl (by decide +kernel) rfl rfl dX5_appendText_159 ?_
                    exact g_iretE cx dX5_appendText_162 (rfl) (rfl)
                  ·
                    have z12 := gi0_nlt z12
                    obtain ⟨t9, rfl⟩ : ∃ z, t = z + 1 := tz_s (by omega) (by assumption)
                    rw [nI_pred t9]
                    refine g_aload_n cx dX5_appendText_121 rfl ?_
                    refine g_get (C := RX5) (T := TX5) (N := 14) (ci := 5) cx hiX5 0 5 (by decide) rfl (by decide +kernel) rfl rfl dX5_appendText_122 ?_
                    refine g_aload_n cx dX5_appendText_125 rfl ?_
                    refine g_get (C := RX5) (T := TX5) (N := 14) (ci := 5) cx hiX5 0 6 (by decide) rfl (by decide +kernel) rfl rfl dX5_appendText_126 ?_
                    refine g_lload_n cx dX5_appendText_129 rfl ?_
                    refine g_bipush cx dX5_appendText_130 kc_b8 ?_
                    refine g_iload cx dX5_appendText_132 rfl ?_
                    refine g_imul cx dX5_appendText_134 ?_
                    refine g_top (pk_mul 8 t9) ?_
                    refine g_lushr cx dX5_appendText_135 rfl ?_
                    refine g_ldc2 (v := 255) cx dX5_appendText_136 (by decide +kernel) ?_
                    refine g_land cx dX5_appendText_139 ?_
                    refine g_l2i cx dX5_appendText_140 rfl ?_
                    refine g_top (show ((((pk.toUInt64 >>> ((nI (8 * t9)).toInt64.toUInt64 &&& Int64.toUInt64 63)).toInt64) &&& 255).toInt32) = nI (byN pk t9) from (lo_nI (byN_lt pk t9))) ?_
                    refine g_iast (ws' := [(h, .inr (5, [.ref an, .ref ap_, .ref asl, .ref ah, .int (nI hN), .ref ax, .int (nI (tyN + (k - (t9 + 1)))), .int (nI 0), .int (nI at_), .ref atd, .int (nI tlN), .ref av, .ref ae, .int go])), (an, .inl (E.2.1 0, 67, .inl nw)), (ap_, .inl (E.2.1 0, 402, .inl ps)), (asl, .inl (E.2.1 0, 134, .inl sl)), (ah, .inl (E.2.1 0, 2, .inl hsl)), (ax, .inl (E.2.1 0, 80, .inl (upd (fun j => nI (apT T tyN pk k (t9 + 1) j)) (tyN + (k - (t9 + 1))) (nI (byN pk t9))))), (atd, .inl (E.2.1 0, 123, .inl td)), (av, .inl (E.2.1 0, 64, .inl va)), (ae, .inl (E.2.1 0, 64, .inl er))]) cx 5 rfl rfl (vp_in_nI (by omega) (by omega)) (by rw [nI_clamp (by omega)]; rfl) dX5_appendText_141 ?_
                    refine g_ws (ws' := [(h, .inr (5, [.ref an, .ref ap_, .ref asl, .ref ah, .int (nI hN), .ref ax, .int (nI (tyN + (k - (t9 + 1)))), .int (nI 0), .int (nI at_), .ref atd, .int (nI tlN), .ref av, .ref ae, .int go])), (an, .inl (E.2.1 0, 67, .inl nw)), (ap_, .inl (E.2.1 0, 402, .inl ps)), (asl, .inl (E.2.1 0, 134, .inl sl)), (ah, .inl (E.2.1 0, 2, .inl hsl)), (ax, .inl (E.2.1 0, 80, .inl (fun j => nI (apT T tyN pk k t9 j)))), (atd, .inl (E.2.1 0, 123, .inl td)), (av, .inl (E.2.1 0, 64, .inl va)), (ae, .inl (E.2.1 0, 64, .inl er))]) (by rw [apT_s _ _ _ _ _ (by omega)]) ?_
                    refine g_aload_n cx dX5_appendText_142 rfl ?_
                    refine g_dup cx dX5_appendText_143 rfl ?_
                    refine g_get (C := RX5) (T := TX5) (N := 14) (ci := 5) cx hiX5 0 6 (by decide) rfl (by decide +kernel) rfl rfl dX5_appendText_144 ?_
                    refine g_iconst cx dX5_appendText_147 kc_i1 ?_
                    refine g_iadd cx dX5_appendText_148 ?_
                    refine g_top (nI_add (tyN + (k - (t9 + 1))) 1) ?_
                    refine g_put (ws' := [(h, .inr (5, [.ref an, .ref ap_, .ref asl, .ref ah, .int (nI hN), .ref ax, .int (nI ((tyN + (k - (t9 + 1))) + 1)), .int (nI 0), .int (nI at_), .ref atd, .int (nI tlN), .ref av, .ref ae, .int go])), (an, .inl (E.2.1 0, 67, .inl nw)), (ap_, .inl (E.2.1 0, 402, .inl ps)), (asl, .inl (E.2.1 0, 134, .inl sl)), (ah, .inl (E.2.1 0, 2, .inl hsl)), (ax, .inl (E.2.1 0, 80, .inl (fun j => nI (apT T tyN pk k t9 j)))), (atd, .inl (E.2.1 0, 123, .inl td)), (av, .inl (E.2.1 0, 64, .inl va)), (ae, .inl (E.2.1 0, 64, .inl er))]) (C := RX5) (T := TX5) (N := 14) (ci := 5) cx hiX5 tyX5 tyX5_ok nmX5 0 6 (by decide) rfl (by decide +kernel) rfl rfl rfl rfl rfl (Nat.le_of_ble_eq_true rfl) rfl dX5_appendText_149 ?_
                    refine g_iinc (lv' := [(7, .int (nI t9 - 1)), (0, .ref h), (1, .long pk)]) (k := 2) cx dX5_appendText_152 rfl (dec1 _) (by decide) rfl ?_
                    refine g_goto (tgt := 116) cx dX5_appendText_155 (by decide) ?_
                    rw [show tyN + (k - (t9 + 1)) + 1 = tyN + (k - t9) from by omega]
                    refine g_lv [1, 2, 0] rfl ?_
                    exact ih_L116 t9 (by omega) (by omega)
              refine g_ws (ws' := [(h, .inr (5, [.ref an, .ref ap_, .ref asl, .ref ah, .int (nI hN), .ref ax, .int (nI (tyN + (k - k))), .int (nI 0), .int (nI at_), .ref atd, .int (nI tlN), .ref av, .ref ae, .int go])), (an, .inl (E.2.1 0, 67, .inl nw)), (ap_, .inl (E.2.1 0, 402, .inl ps)), (asl, .inl (E.2.1 0, 134, .inl sl)), (ah, .inl (E.2.1 0, 2, .inl hsl)), (ax, .inl (E.2.1 0, 80, .inl (fun j => nI (apT T tyN pk k k j)))), (atd, .inl (E.2.1 0, 123, .inl td)), (av, .inl (E.2.1 0, 64, .inl va)), (ae, .inl (E.2.1 0, 64, .inl er))]) (by rw [apT_0, Nat.sub_self]; rfl) ?_
              refine g_lv [1, 2, 0] rfl ?_
              exact L116 (k + 1) k (by omega) (by omega)
            ·
              have z10 := lg_ne z10
              exact absurd rfl z10
        ·
          have z7 := lg_ne z7
          refine g_iload cx dX5_appendText_30 rfl ?_
          refine g_if_eq (tgt := 56) cx dX5_appendText_32 (by decide) (fun z13 => ?_) (fun z13 => ?_)
          ·
            have z13 := gB_eq0 z13
            refine g_iconst cx dX5_appendText_56 kc_i0 ?_
            refine g_top (show nI 0 = gB (b9 && bR ((l9 &&& 255).toInt32) 33 126) from gB_off (by rw [z13]; rfl)) ?_
            refine g_istore (lv' := [(4, .int (gB (b9 && bR ((l9 &&& 255).toInt32) 33 126))), (0, .ref h), (1, .long pk), (3, .int (nI c9)), (5, .long l9)]) cx dX5_appendText_57 (by decide) rfl ?_
            refine g_lload cx dX5_appendText_59 rfl ?_
            refine g_bipush cx dX5_appendText_61 kc_b8 ?_
            refine g_lushr cx dX5_appendText_63 rfl ?_
            refine g_lstore (lv' := [(5, .long ((l9.toUInt64 >>> ((nI 8).toInt64.toUInt64 &&& Int64.toUInt64 63)).toInt64)), (4, .int (gB (b9 && bR ((l9 &&& 255).toInt32) 33 126))), (0, .ref h), (1, .long pk), (3, .int (nI c9))]) cx dX5_appendText_64 (by decide) rfl ?_
            refine g_iinc (lv' := [(3, .int (nI (c9 + 1))), (5, .long ((l9.toUInt64 >>> ((nI 8).toInt64.toUInt64 &&& Int64.toUInt64 63)).toInt64)), (4, .int (gB (b9 && bR ((l9 &&& 255).toInt32) 33 126))), (0, .ref h), (1, .long pk)]) (k := 4) cx dX5_appendText_66 rfl (gn_inc1 c9) (by decide) rfl ?_
            refine g_goto (tgt := 13) cx dX5_appendText_69 (by decide) ?_
            refine g_lv [3, 4, 0, 2, 1] rfl ?_
            exact ih_L13 (c9 + 1) (b9 && bR ((l9 &&& 255).toInt32) 33 126) ((l9.toUInt64 >>> ((nI 8).toInt64.toUInt64 &&& Int64.toUInt64 63)).toInt64) (by omega) (by omega) ((rcn_go (by omega) (by assumption)).symm.trans he)
          ·
            have z13 := gB_ne0 z13
            refine g_lload cx dX5_appendText_35 rfl ?_
            refine g_ldc2 (v := 255) cx dX5_appendText_37 (by decide +kernel) ?_
            refine g_land cx dX5_appendText_40 ?_
            refine g_l2i cx dX5_appendText_41 rfl ?_
            refine g_bipush cx dX5_appendText_42 kc_b33 ?_
            refine g_bipush cx dX5_appendText_44 kc_b126 ?_
            refine g_callS (ws' := [(h, .inr (5, [.ref an, .ref ap_, .ref asl, .ref ah, .int (nI hN), .ref ax, .int (nI tyN), .int (nI 0), .int (nI at_), .ref atd, .int (nI tlN), .ref av, .ref ae, .int go])), (an, .inl (E.2.1 0, 67, .inl nw)), (ap_, .inl (E.2.1 0, 402, .inl ps)), (asl, .inl (E.2.1 0, 134, .inl sl)), (ah, .inl (E.2.1 0, 2, .inl hsl)), (ax, .inl (E.2.1 0, 80, .inl (fun j => nI (T j)))), (atd, .inl (E.2.1 0, 123, .inl td)), (av, .inl (E.2.1 0, 64, .inl va)), (ae, .inl (E.2.1 0, 64, .inl er))]) (As := [.int ((l9 &&& 255).toInt32), .int (nI 33), .int (nI 126)]) (rest := []) (n := 3) cx (c_X5_in l E ((l9 &&& 255).toInt32) 33 126 (by omega) (by omega)) gX5_appendText_X5_in rfl (by decide +kernel) rfl rfl ⟨Nat.le_of_ble_eq_true rfl, Nat.le_of_ble_eq_true rfl⟩ ⟨Nat.zero_le _, Nat.zero_le _⟩ [] (by decide) rfl rfl rfl rfl (Nat.le_of_ble_eq_true rfl) dX5_appendText_46 ?_
            refine g_if_eq (tgt := 56) cx dX5_appendText_49 (by decide) (fun z14 => ?_) (fun z14 => ?_)
            ·
              have z14 := gB_eq0 z14
              refine g_iconst cx dX5_appendText_56 kc_i0 ?_
              refine g_top (show nI 0 = gB (b9 && bR ((l9 &&& 255).toInt32) 33 126) from gB_off (by rw [z13, z14]; rfl)) ?_
              refine g_istore (lv' := [(4, .int (gB (b9 && bR ((l9 &&& 255).toInt32) 33 126))), (0, .ref h), (1, .long pk), (3, .int (nI c9)), (5, .long l9)]) cx dX5_appendText_57 (by decide) rfl ?_
              refine g_lload cx dX5_appendText_59 rfl ?_
              refine g_bipush cx dX5_appendText_61 kc_b8 ?_
              refine g_lushr cx dX5_appendText_63 rfl ?_
              refine g_lstore (lv' := [(5, .long ((l9.toUInt64 >>> ((nI 8).toInt64.toUInt64 &&& Int64.toUInt64 63)).toInt64)), (4, .int (gB (b9 && bR ((l9 &&& 255).toInt32) 33 126))), (0, .ref h), (1, .long pk), (3, .int (nI c9))]) cx dX5_appendText_64 (by decide) rfl ?_
              refine g_iinc (lv' := [(3, .int (nI (c9 + 1))), (5, .long ((l9.toUInt64 >>> ((nI 8).toInt64.toUInt64 &&& Int64.toUInt64 63)).toInt64)), (4, .int (gB (b9 && bR ((l9 &&& 255).toInt32) 33 126))), (0, .ref h), (1, .long pk)]) (k := 4) cx dX5_appendText_66 rfl (gn_inc1 c9) (by decide) rfl ?_
              refine g_goto (tgt := 13) cx dX5_appendText_69 (by decide) ?_
              refine g_lv [3, 4, 0, 2, 1] rfl ?_
              exact ih_L13 (c9 + 1) (b9 && bR ((l9 &&& 255).toInt32) 33 126) ((l9.toUInt64 >>> ((nI 8).toInt64.toUInt64 &&& Int64.toUInt64 63)).toInt64) (by omega) (by omega) ((rcn_go (by omega) (by assumption)).symm.trans he)
            ·
              have z14 := gB_ne0 z14
              refine g_iconst cx dX5_appendText_52 kc_i1 ?_
              refine g_goto (tgt := 57) cx dX5_appendText_53 (by decide) ?_
              refine g_top (show nI 1 = gB (b9 && bR ((l9 &&& 255).toInt32) 33 126) from gB_of (by rw [z13, z14]; rfl)) ?_
              refine g_istore (lv' := [(4, .int (gB (b9 && bR ((l9 &&& 255).toInt32) 33 126))), (0, .ref h), (1, .long pk), (3, .int (nI c9)), (5, .long l9)]) cx dX5_appendText_57 (by decide) rfl ?_
              refine g_lload cx dX5_appendText_59 rfl ?_
              refine g_bipush cx dX5_appendText_61 kc_b8 ?_
              refine g_lushr cx dX5_appendText_63 rfl ?_
              refine g_lstore (lv' := [(5, .long ((l9.toUInt64 >>> ((nI 8).toInt64.toUInt64 &&& Int64.toUInt64 63)).toInt64)), (4, .int (gB (b9 && bR ((l9 &&& 255).toInt32) 33 126))), (0, .ref h), (1, .long pk), (3, .int (nI c9))]) cx dX5_appendText_64 (by decide) rfl ?_
              refine g_iinc (lv' := [(3, .int (nI (c9 + 1))), (5, .long ((l9.toUInt64 >>> ((nI 8).toInt64.toUInt64 &&& Int64.toUInt64 63)).toInt64)), (4, .int (gB (b9 && bR ((l9 &&& 255).toInt32) 33 126))), (0, .ref h), (1, .long pk)]) (k := 4) cx dX5_appendText_66 rfl (gn_inc1 c9) (by decide) rfl ?_
              refine g_goto (tgt := 13) cx dX5_appendText_69 (by decide) ?_
              refine g_lv [3, 4, 0, 2, 1] rfl ?_
              exact ih_L13 (c9 + 1) (b9 && bR ((l9 &&& 255).toInt32) 33 126) ((l9.toUInt64 >>> ((nI 8).toInt64.toUInt64 &&& Int64.toUInt64 63)).toInt64) (by omega) (by omega) ((rcn_go (by omega) (by assumption)).symm.trans he)
  refine g_lv [3, 4, 2, 1, 0] rfl ?_
  exact L13 (8 - 0 + 1) 0 true pk (by omega) (by omega) rfl
