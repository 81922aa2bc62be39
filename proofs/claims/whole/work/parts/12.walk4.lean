set_option maxRecDepth 100000 in
set_option maxHeartbeats 4000000 in
theorem c_X5_thrown (l : Launch) (E : gEnv) (h : Nat) (an : Nat) (ap_ : Nat) (asl : Nat) (ah : Nat) (ax : Nat) (atd : Nat) (av : Nat) (ae : Nat) (nw : Nat → Int32) (ps : Nat → Int32) (sl : Nat → Int32) (hsl : Nat → Int32) (td : Nat → Int32) (va : Nat → Int32) (er : Nat → Int32) (T : Nat → Nat) (hN : Nat) (tyN : Nat) (at_ : Nat) (tlN : Nat) (th : Int32) (go : Int32)  : gM l yX5_thrown wsX5_thrown ({ frames := 0, cells := 0, slots := 0, locals := 0 } : Room) E [.ref h] [(h, .inr (5, [.ref an, .ref ap_, .ref asl, .ref ah, .int (nI hN), .ref ax, .int (nI tyN), .int th, .int (nI at_), .ref atd, .int (nI tlN), .ref av, .ref ae, .int go])), (an, .inl (E.2.1 0, 67, .inl nw)), (ap_, .inl (E.2.1 0, 402, .inl ps)), (asl, .inl (E.2.1 0, 134, .inl sl)), (ah, .inl (E.2.1 0, 2, .inl hsl)), (ax, .inl (E.2.1 0, 80, .inl (fun j => nI (T j)))), (atd, .inl (E.2.1 0, 123, .inl td)), (av, .inl (E.2.1 0, 64, .inl va)), (ae, .inl (E.2.1 0, 64, .inl er))] [(h, .inr (5, [.ref an, .ref ap_, .ref asl, .ref ah, .int (nI hN), .ref ax, .int (nI tyN), .int th, .int (nI at_), .ref atd, .int (nI tlN), .ref av, .ref ae, .int go])), (an, .inl (E.2.1 0, 67, .inl nw)), (ap_, .inl (E.2.1 0, 402, .inl ps)), (asl, .inl (E.2.1 0, 134, .inl sl)), (ah, .inl (E.2.1 0, 2, .inl hsl)), (ax, .inl (E.2.1 0, 80, .inl (fun j => nI (T j)))), (atd, .inl (E.2.1 0, 123, .inl td)), (av, .inl (E.2.1 0, 64, .inl va)), (ae, .inl (E.2.1 0, 64, .inl er))] (some (.int th)) := by
  refine gM.ofG (cc := cX5_thrown) (nL := 1) (ret := (some .int)) (own := RX5) [(0, .ref h)] (by decide) rfl rfl (Nat.le_of_ble_eq_true rfl) rfl rfl ?_
  intro pX eX sX mX bX tX cX A cx
  have hiX5 : ∀ w ∈ u_ws RX5 TX5 14, w ∈ wsX5_thrown := by decide +kernel
  refine g_aload_n cx dX5_thrown_0 rfl ?_
  refine g_get (C := RX5) (T := TX5) (N := 14) (ci := 5) cx hiX5 0 7 (by decide) rfl (by decide +kernel) rfl rfl dX5_thrown_1 ?_
  exact g_iretE cx dX5_thrown_4 (rfl) (rfl)
set_option maxRecDepth 100000 in
set_option maxHeartbeats 4000000 in
theorem c_X5_fails (l : Launch) (E : gEnv) (h : Nat) (an : Nat) (ap_ : Nat) (asl : Nat) (ah : Nat) (ax : Nat) (atd : Nat) (av : Nat) (ae : Nat) (nw : Nat → Int32) (ps : Nat → Int32) (sl : Nat → Int32) (hsl : Nat → Int32) (td : Nat → Int32) (va : Nat → Int32) (er : Nat → Int32) (T : Nat → Nat) (hN : Nat) (tyN : Nat) (at_ : Nat) (tlN : Nat) (th : Int32) (go : Int32) (x : Int32)  : gM l yX5_fails wsX5_fails ({ frames := 0, cells := 0, slots := 0, locals := 0 } : Room) E [.ref h, .int x] [(h, .inr (5, [.ref an, .ref ap_, .ref asl, .ref ah, .int (nI hN), .ref ax, .int (nI tyN), .int th, .int (nI at_), .ref atd, .int (nI tlN), .ref av, .ref ae, .int go])), (an, .inl (E.2.1 0, 67, .inl nw)), (ap_, .inl (E.2.1 0, 402, .inl ps)), (asl, .inl (E.2.1 0, 134, .inl sl)), (ah, .inl (E.2.1 0, 2, .inl hsl)), (ax, .inl (E.2.1 0, 80, .inl (fun j => nI (T j)))), (atd, .inl (E.2.1 0, 123, .inl td)), (av, .inl (E.2.1 0, 64, .inl va)), (ae, .inl (E.2.1 0, 64, .inl er))] [(h, .inr (5, [.ref an, .ref ap_, .ref asl, .ref ah, .int (nI hN), .ref ax, .int (nI tyN), .int x, .int (nI at_), .ref atd, .int (nI tlN), .ref av, .ref ae, .int go])), (an, .inl (E.2.1 0, 67, .inl nw)), (ap_, .inl (E.2.1 0, 402, .inl ps)), (asl, .inl (E.2.1 0, 134, .inl sl)), (ah, .inl (E.2.1 0, 2, .inl hsl)), (ax, .inl (E.2.1 0, 80, .inl (fun j => nI (T j)))), (atd, .inl (E.2.1 0, 123, .inl td)), (av, .inl (E.2.1 0, 64, .inl va)), (ae, .inl (E.2.1 0, 64, .inl er))] (some (.int (nI 0))) := by
  refine gM.ofG (cc := cX5_fails) (nL := 2) (ret := (some .int)) (own := RX5) [(0, .ref h), (1, .int x)] (by decide) rfl rfl (Nat.le_of_ble_eq_true rfl) rfl rfl ?_
  intro pX eX sX mX bX tX cX A cx
  have hiX5 : ∀ w ∈ u_ws RX5 TX5 14, w ∈ wsX5_fails := by decide +kernel
  refine g_aload_n cx dX5_fails_0 rfl ?_
  refine g_iload_n cx dX5_fails_1 rfl ?_
  refine g_put (ws' := [(h, .inr (5, [.ref an, .ref ap_, .ref asl, .ref ah, .int (nI hN), .ref ax, .int (nI tyN), .int x, .int (nI at_), .ref atd, .int (nI tlN), .ref av, .ref ae, .int go])), (an, .inl (E.2.1 0, 67, .inl nw)), (ap_, .inl (E.2.1 0, 402, .inl ps)), (asl, .inl (E.2.1 0, 134, .inl sl)), (ah, .inl (E.2.1 0, 2, .inl hsl)), (ax, .inl (E.2.1 0, 80, .inl (fun j => nI (T j)))), (atd, .inl (E.2.1 0, 123, .inl td)), (av, .inl (E.2.1 0, 64, .inl va)), (ae, .inl (E.2.1 0, 64, .inl er))]) (C := RX5) (T := TX5) (N := 14) (ci := 5) cx hiX5 tyX5 tyX5_ok nmX5 0 7 (by decide) rfl (by decide +kernel) rfl rfl rfl rfl rfl (Nat.le_of_ble_eq_true rfl) rfl dX5_fails_2 ?_
  refine g_iconst cx dX5_fails_5 kc_i0 ?_
  exact g_iretE cx dX5_fails_6 (rfl) (rfl)
set_option maxRecDepth 100000 in
set_option maxHeartbeats 4000000 in
theorem c_X5_in (l : Launch) (E : gEnv) (v : Int32) (lo : Nat) (hb : Nat) (h1 : lo < 2 ^ 31) (h2 : hb < 2 ^ 31) : gM l yX5_in wsX5_in ({ frames := 0, cells := 0, slots := 0, locals := 0 } : Room) E [.int v, .int (nI lo), .int (nI hb)] [] [] (some (.int (gB (bR v lo hb)))) := by
  refine gM.ofG (cc := cX5_in) (nL := 3) (ret := (some .boolean)) (own := RX5) [(0, .int v), (1, .int (nI lo)), (2, .int (nI hb))] (by decide) rfl rfl (Nat.le_of_ble_eq_true rfl) rfl rfl ?_
  intro pX eX sX mX bX tX cX A cx
  refine g_iload_n cx dX5_in_0 rfl ?_
  refine g_iload_n cx dX5_in_1 rfl ?_
  refine g_icmp_lt (tgt := 14) cx dX5_in_2 (by decide) (fun z1 => ?_) (fun z1 => ?_)
  ·
    have z1 := gi_lt (b := lo) (by omega) z1
    refine g_iconst cx dX5_in_14 kc_i0 ?_
    exact g_zretE cx (by decide +kernel) dX5_in_15 (rfl) (by first | exact gB_of (bR_t.mpr (by omega)) | exact gB_off (bR_f.mpr (by omega)))
  ·
    have z1 := gi_nlt (b := lo) (by omega) z1
    refine g_iload_n cx dX5_in_5 rfl ?_
    refine g_iload_n cx dX5_in_6 rfl ?_
    refine g_icmp_gt (tgt := 14) cx dX5_in_7 (by decide) (fun z2 => ?_) (fun z2 => ?_)
    ·
      have z2 := gj_lt (b := hb) (by omega) z2
      refine g_iconst cx dX5_in_14 kc_i0 ?_
      exact g_zretE cx (by decide +kernel) dX5_in_15 (rfl) (by first | exact gB_of (bR_t.mpr (by omega)) | exact gB_off (bR_f.mpr (by omega)))
    ·
      have z2 := gj_nlt (b := hb) (by omega) z2
      refine g_iconst cx dX5_in_10 kc_i1 ?_
      refine g_goto (tgt := 15) cx dX5_in_11 (by decide) ?_
      exact g_zretE cx (by decide +kernel) dX5_in_15 (rfl) (by first | exact gB_of (bR_t.mpr (by omega)) | exact gB_off (bR_f.mpr (by omega)))
set_option maxRecDepth 100000 in
set_option maxHeartbeats 4000000 in
theorem c_X5_isGrey (l : Launch) (E : gEnv) (v : Int32)  : gM l yX5_isGrey wsX5_isGrey ({ frames := 1, cells := 0, slots := 0, locals := 22 } : Room) E [.int v] [] [] (some (.int (gB (bR v 0 255)))) := by
  refine gM.ofG (cc := cX5_isGrey) (nL := 1) (ret := (some .boolean)) (own := RX5) [(0, .int v)] (by decide) rfl rfl (Nat.le_of_ble_eq_true rfl) rfl rfl ?_
  intro pX eX sX mX bX tX cX A cx
  refine g_iload_n cx dX5_isGrey_0 rfl ?_
  refine g_iconst cx dX5_isGrey_1 kc_i0 ?_
  refine g_sipush cx dX5_isGrey_2 kc_s255 ?_
  refine g_callS (ws' := []) (As := [.int v, .int (nI 0), .int (nI 255)]) (rest := []) (n := 3) cx (c_X5_in l E v 0 255 (by omega) (by omega)) gX5_isGrey_X5_in rfl (by decide +kernel) rfl rfl ⟨Nat.le_of_ble_eq_true rfl, Nat.le_of_ble_eq_true rfl⟩ ⟨Nat.zero_le _, Nat.zero_le _⟩ [] (by decide) rfl rfl rfl rfl (Nat.le_of_ble_eq_true rfl) dX5_isGrey_5 ?_
  exact g_zretE cx (gB_nar _) dX5_isGrey_8 (rfl) (rfl)
set_option maxRecDepth 100000 in
set_option maxHeartbeats 4000000 in
theorem c_X5_isCell (l : Launch) (E : gEnv) (h : Nat) (an : Nat) (ap_ : Nat) (asl : Nat) (ah : Nat) (ax : Nat) (atd : Nat) (av : Nat) (ae : Nat) (nw : Nat → Int32) (ps : Nat → Int32) (sl : Nat → Int32) (hsl : Nat → Int32) (td : Nat → Int32) (va : Nat → Int32) (er : Nat → Int32) (T : Nat → Nat) (hN : Nat) (tyN : Nat) (at_ : Nat) (tlN : Nat) (th : Int32) (go : Int32) (v : Int32)  : gM l yX5_isCell wsX5_isCell ({ frames := 1, cells := 0, slots := 0, locals := 22 } : Room) E [.ref h, .int v] [(h, .inr (5, [.ref an, .ref ap_, .ref asl, .ref ah, .int (nI hN), .ref ax, .int (nI tyN), .int th, .int (nI at_), .ref atd, .int (nI tlN), .ref av, .ref ae, .int go])), (an, .inl (E.2.1 0, 67, .inl nw)), (ap_, .inl (E.2.1 0, 402, .inl ps)), (asl, .inl (E.2.1 0, 134, .inl sl)), (ah, .inl (E.2.1 0, 2, .inl hsl)), (ax, .inl (E.2.1 0, 80, .inl (fun j => nI (T j)))), (atd, .inl (E.2.1 0, 123, .inl td)), (av, .inl (E.2.1 0, 64, .inl va)), (ae, .inl (E.2.1 0, 64, .inl er))] [(h, .inr (5, [.ref an, .ref ap_, .ref asl, .ref ah, .int (nI hN), .ref ax, .int (nI tyN), .int (if bR v 0 63 = true then nI 0 else nI 1), .int (nI at_), .ref atd, .int (nI tlN), .ref av, .ref ae, .int go])), (an, .inl (E.2.1 0, 67, .inl nw)), (ap_, .inl (E.2.1 0, 402, .inl ps)), (asl, .inl (E.2.1 0, 134, .inl sl)), (ah, .inl (E.2.1 0, 2, .inl hsl)), (ax, .inl (E.2.1 0, 80, .inl (fun j => nI (T j)))), (atd, .inl (E.2.1 0, 123, .inl td)), (av, .inl (E.2.1 0, 64, .inl va)), (ae, .inl (E.2.1 0, 64, .inl er))] (some (.int (gB (bR v 0 63)))) := by
  refine gM.ofG (cc := cX5_isCell) (nL := 2) (ret := (some .boolean)) (own := RX5) [(0, .ref h), (1, .int v)] (by decide) rfl rfl (Nat.le_of_ble_eq_true rfl) rfl rfl ?_
  intro pX eX sX mX bX tX cX A cx
  have hiX5 : ∀ w ∈ u_ws RX5 TX5 14, w ∈ wsX5_isCell := by decide +kernel
  refine g_aload_n cx dX5_isCell_0 rfl ?_
  refine g_iload_n cx dX5_isCell_1 rfl ?_
  refine g_iconst cx dX5_isCell_2 kc_i0 ?_
  refine g_bipush cx dX5_isCell_3 kc_b63 ?_
  refine g_callS (ws' := [(h, .inr (5, [.ref an, .ref ap_, .ref asl, .ref ah, .int (nI hN), .ref ax, .int (nI tyN), .int th, .int (nI at_), .ref atd, .int (nI tlN), .ref av, .ref ae, .int go])), (an, .inl (E.2.1 0, 67, .inl nw)), (ap_, .inl (E.2.1 0, 402, .inl ps)), (asl, .inl (E.2.1 0, 134, .inl sl)), (ah, .inl (E.2.1 0, 2, .inl hsl)), (ax, .inl (E.2.1 0, 80, .inl (fun j => nI (T j)))), (atd, .inl (E.2.1 0, 123, .inl td)), (av, .inl (E.2.1 0, 64, .inl va)), (ae, .inl (E.2.1 0, 64, .inl er))]) (As := [.int v, .int (nI 0), .int (nI 63)]) (rest := [.ref h]) (n := 3) cx (c_X5_in l E v 0 63 (by omega) (by omega)) gX5_isCell_X5_in rfl (by decide +kernel) rfl rfl ⟨Nat.le_of_ble_eq_true rfl, Nat.le_of_ble_eq_true rfl⟩ ⟨Nat.zero_le _, Nat.zero_le _⟩ [] (by decide) rfl rfl rfl rfl (Nat.le_of_ble_eq_true rfl) dX5_isCell_5 ?_
  refine g_if_eq (tgt := 15) cx dX5_isCell_8 (by decide) (fun z1 => ?_) (fun z1 => ?_)
  ·
    have z1 := gB_eq0 z1
    refine g_iconst cx dX5_isCell_15 kc_i1 ?_
    refine g_put (ws' := [(h, .inr (5, [.ref an, .ref ap_, .ref asl, .ref ah, .int (nI hN), .ref ax, .int (nI tyN), .int (nI 1), .int (nI at_), .ref atd, .int (nI tlN), .ref av, .ref ae, .int go])), (an, .inl (E.2.1 0, 67, .inl nw)), (ap_, .inl (E.2.1 0, 402, .inl ps)), (asl, .inl (E.2.1 0, 134, .inl sl)), (ah, .inl (E.2.1 0, 2, .inl hsl)), (ax, .inl (E.2.1 0, 80, .inl (fun j => nI (T j)))), (atd, .inl (E.2.1 0, 123, .inl td)), (av, .inl (E.2.1 0, 64, .inl va)), (ae, .inl (E.2.1 0, 64, .inl er))]) (C := RX5) (T := TX5) (N := 14) (ci := 5) cx hiX5 tyX5 tyX5_ok nmX5 0 7 (by decide) rfl (by decide +kernel) rfl rfl rfl rfl rfl (Nat.le_of_ble_eq_true rfl) rfl dX5_isCell_16 ?_
    refine g_aload_n cx dX5_isCell_19 rfl ?_
    refine g_get (C := RX5) (T := TX5) (N := 14) (ci := 5) cx hiX5 0 7 (by decide) rfl (by decide +kernel) rfl rfl dX5_isCell_20 ?_
    refine g_if_ne (tgt := 30) cx dX5_isCell_23 (by decide) (fun z2 => ?_) (fun z2 => absurd z2 (by decide +kernel))
    have z2 := gn_ne0 z2
    refine g_iconst cx dX5_isCell_30 kc_i0 ?_
    exact g_zretE cx (by decide +kernel) dX5_isCell_31 (by first | rw [if_pos (by assumption)] | rw [if_neg (by simp_all)]) (by first | exact gB_of (by assumption) | exact gB_off (by assumption))
  ·
    have z1 := gB_ne0 z1
    refine g_iconst cx dX5_isCell_11 kc_i0 ?_
    refine g_goto (tgt := 16) cx dX5_isCell_12 (by decide) ?_
    refine g_put (ws' := [(h, .inr (5, [.ref an, .ref ap_, .ref asl, .ref ah, .int (nI hN), .ref ax, .int (nI tyN), .int (nI 0), .int (nI at_), .ref atd, .int (nI tlN), .ref av, .ref ae, .int go])), (an, .inl (E.2.1 0, 67, .inl nw)), (ap_, .inl (E.2.1 0, 402, .inl ps)), (asl, .inl (E.2.1 0, 134, .inl sl)), (ah, .inl (E.2.1 0, 2, .inl hsl)), (ax, .inl (E.2.1 0, 80, .inl (fun j => nI (T j)))), (atd, .inl (E.2.1 0, 123, .inl td)), (av, .inl (E.2.1 0, 64, .inl va)), (ae, .inl (E.2.1 0, 64, .inl er))]) (C := RX5) (T := TX5) (N := 14) (ci := 5) cx hiX5 tyX5 tyX5_ok nmX5 0 7 (by decide) rfl (by decide +kernel) rfl rfl rfl rfl rfl (Nat.le_of_ble_eq_true rfl) rfl dX5_isCell_16 ?_
    refine g_aload_n cx dX5_isCell_19 rfl ?_
    refine g_get (C := RX5) (T := TX5) (N := 14) (ci := 5) cx hiX5 0 7 (by decide) rfl (by decide +kernel) rfl rfl dX5_isCell_20 ?_
    refine g_if_ne (tgt := 30) cx dX5_isCell_23 (by decide) (fun z3 => absurd z3 (by decide +kernel)) (fun z3 => ?_)
    have z3 := gn_eq0 (by omega) z3
    refine g_iconst cx dX5_isCell_26 kc_i1 ?_
    refine g_goto (tgt := 31) cx dX5_isCell_27 (by decide) ?_
    exact g_zretE cx (by decide +kernel) dX5_isCell_31 (by first | rw [if_pos (by assumption)] | rw [if_neg (by simp_all)]) (by first | exact gB_of (by assumption) | exact gB_off (by assumption))
set_option maxRecDepth 100000 in
set_option maxHeartbeats 4000000 in
theorem c_X5_copies (l : Launch) (E : gEnv) (a1 : Nat) (n1 : Nat) (f : Nat → Int32) (x : Nat) (a2 : Nat) (n2 : Nat) (g : Nat → Int32) (y : Nat) (h1 : x + 67 ≤ n1) (h2 : y + 67 ≤ n2) (h3 : n1 < 2 ^ 20) (h4 : n2 < 2 ^ 20) : gM l yX5_copies wsX5_copies ({ frames := 0, cells := 0, slots := 0, locals := 0 } : Room) E [.ref a1, .int (nI x), .ref a2, .int (nI y)] [(a1, .inl (E.2.1 0, n1, .inl f)), (a2, .inl (E.2.1 0, n2, .inl g))] [(a1, .inl (E.2.1 0, n1, .inl f)), (a2, .inl (E.2.1 0, n2, .inl (va_cpy f g x y 67)))] none := by
  refine gM.ofG (cc := cX5_copies) (nL := 5) (ret := none) (own := RX5) [(0, .ref a1), (1, .int (nI x)), (2, .ref a2), (3, .int (nI y))] (by decide) rfl rfl (Nat.le_of_ble_eq_true rfl) rfl rfl ?_
  intro pX eX sX mX bX tX cX A cx
  refine g_iconst cx dX5_copies_0 kc_i0 ?_
  refine g_istore (lv' := [(4, .int (nI 0)), (0, .ref a1), (1, .int (nI x)), (2, .ref a2), (3, .int (nI y))]) cx dX5_copies_1 (by decide) rfl ?_
  have L3 : ∀ (n_ : Nat) (k : Nat) (g1 : Nat → Int32), 67 - k < n_ → g1 = va_cpy f g x y k → k ≤ 67 → gG pX l eX ({ frames := 0, cells := 0, slots := 0, locals := 0 } : Room) sX mX ([.ref a1, .int (nI x), .ref a2, .int (nI y)] : List Value).toArray bX tX cX 5 E A (MQ bX (gQ E [(a1, .inl (E.2.1 0, n1, .inl f)), (a2, .inl (E.2.1 0, n2, .inl (va_cpy f g x y 67)))] none A) ([.ref a1, .int (nI x), .ref a2, .int (nI y)] : List Value).toArray sX 0 0 A) 0 0 [(a1, .inl (E.2.1 0, n1, .inl f)), (a2, .inl (E.2.1 0, n2, .inl g1))] [(0, .ref a1), (1, .int (nI x)), (2, .ref a2), (3, .int (nI y)), (4, .int (nI k))] [] 3 := by
    intro n_
    induction n_ with
    | zero => intro k g1 hm_; exact absurd hm_ (Nat.not_lt_zero _)
    | succ n_ ih_L3 =>
      intro k g1 hm_ e_g1 hk
      subst e_g1
      refine g_iload cx dX5_copies_3 rfl ?_
      refine g_bipush cx dX5_copies_5 kc_b67 ?_
      refine g_icmp_ge (tgt := 28) cx dX5_copies_7 (by decide) (fun z1 => ?_) (fun z1 => ?_)
      ·
        have z1 := gn_le (a := 67) (b := k) (by omega) (by omega) z1
        obtain rfl : k = 67 := by omega
        exact g_vretE cx dX5_copies_28 (rfl)
      ·
        have z1 := gn_nle (a := 67) (b := k) (by omega) (by omega) z1
        refine g_aload_n cx dX5_copies_10 rfl ?_
        refine g_iload_n cx dX5_copies_11 rfl ?_
        refine g_iload cx dX5_copies_12 rfl ?_
        refine g_iadd cx dX5_copies_14 ?_
        refine g_top (nI_add y k) ?_
        refine g_aload_n cx dX5_copies_15 rfl ?_
        refine g_iload_n cx dX5_copies_16 rfl ?_
        refine g_iload cx dX5_copies_17 rfl ?_
        refine g_iadd cx dX5_copies_19 ?_
        refine g_top (nI_add x k) ?_
        refine g_iald cx 0 rfl rfl (vp_in_nI (by omega) (by omega)) (congrArg _ (nI_clamp (by omega))) dX5_copies_20 ?_
        refine g_iast (ws' := [(a1, .inl (E.2.1 0, n1, .inl f)), (a2, .inl (E.2.1 0, n2, .inl (upd (va_cpy f g x y k) (y + k) (f (x + k)))))]) cx 1 rfl rfl (vp_in_nI (by omega) (by omega)) (by rw [nI_clamp (by omega)]; rfl) dX5_copies_21 ?_
        refine g_iinc (lv' := [(4, .int (nI (k + 1))), (0, .ref a1), (1, .int (nI x)), (2, .ref a2), (3, .int (nI y))]) (k := 4) cx dX5_copies_22 rfl (gn_inc1 k) (by decide) rfl ?_
        refine g_goto (tgt := 3) cx dX5_copies_25 (by decide) ?_
        refine g_lv [1, 2, 3, 4, 0] rfl ?_
        exact ih_L3 (k + 1) (upd (va_cpy f g x y k) (y + k) (f (x + k))) (by omega) (cpy_s _ _ _ _ _) (by omega)
  refine g_lv [1, 2, 3, 4, 0] rfl ?_
  exact L3 (67 - 0 + 1) 0 g (by omega) (cpy_0 _ _ _ _).symm (by omega)
set_option maxRecDepth 100000 in
set_option maxHeartbeats 4000000 in
theorem c_X5_keepsState (l : Launch) (E : gEnv) (h : Nat) (an : Nat) (ap_ : Nat) (asl : Nat) (ah : Nat) (ax : Nat) (atd : Nat) (av : Nat) (ae : Nat) (nw : Nat → Int32) (ps : Nat → Int32) (sl : Nat → Int32) (hsl : Nat → Int32) (td : Nat → Int32) (va : Nat → Int32) (er : Nat → Int32) (T : Nat → Nat) (hN : Nat) (tyN : Nat) (at_ : Nat) (tlN : Nat) (th : Int32) (go : Int32) (h6 : hN ≤ 6) : gM l yX5_keepsState wsX5_keepsState ({ frames := 1, cells := 0, slots := 0, locals := 24 } : Room) E [.ref h] [(h, .inr (5, [.ref an, .ref ap_, .ref asl, .ref ah, .int (nI hN), .ref ax, .int (nI tyN), .int th, .int (nI at_), .ref atd, .int (nI tlN), .ref av, .ref ae, .int go])), (an, .inl (E.2.1 0, 67, .inl nw)), (ap_, .inl (E.2.1 0, 402, .inl ps)), (asl, .inl (E.2.1 0, 134, .inl sl)), (ah, .inl (E.2.1 0, 2, .inl hsl)), (ax, .inl (E.2.1 0, 80, .inl (fun j => nI (T j)))), (atd, .inl (E.2.1 0, 123, .inl td)), (av, .inl (E.2.1 0, 64, .inl va)), (ae, .inl (E.2.1 0, 64, .inl er))] [(h, .inr (5, [.ref an, .ref ap_, .ref asl, .ref ah, .int (nI (kN hN)), .ref ax, .int (nI tyN), .int th, .int (nI at_), .ref atd, .int (nI tlN), .ref av, .ref ae, .int go])), (an, .inl (E.2.1 0, 67, .inl nw)), (ap_, .inl (E.2.1 0, 402, .inl (kP ps nw hN))), (asl, .inl (E.2.1 0, 134, .inl sl)), (ah, .inl (E.2.1 0, 2, .inl hsl)), (ax, .inl (E.2.1 0, 80, .inl (fun j => nI (T j)))), (atd, .inl (E.2.1 0, 123, .inl td)), (av, .inl (E.2.1 0, 64, .inl va)), (ae, .inl (E.2.1 0, 64, .inl er))] none := by
  refine gM.ofG (cc := cX5_keepsState) (nL := 2) (ret := none) (own := RX5) [(0, .ref h)] (by decide) rfl rfl (Nat.le_of_ble_eq_true rfl) rfl rfl ?_
  intro pX eX sX mX bX tX cX A cx
  have hiX5 : ∀ w ∈ u_ws RX5 TX5 14, w ∈ wsX5_keepsState := by decide +kernel
  refine g_aload_n cx dX5_keepsState_0 rfl ?_
  refine g_get (C := RX5) (T := TX5) (N := 14) (ci := 5) cx hiX5 0 4 (by decide) rfl (by decide +kernel) rfl rfl dX5_keepsState_1 ?_
  refine g_bipush cx dX5_keepsState_4 kc_b6 ?_
  refine g_icmp_ne (tgt := 49) cx dX5_keepsState_6 (by decide) (fun z1 => ?_) (fun z1 => ?_)
  ·
    have z1 := gn_ne (a := hN) (b := 6) z1
    refine g_aload_n cx dX5_keepsState_49 rfl ?_
    refine g_get (C := RX5) (T := TX5) (N := 14) (ci := 5) cx hiX5 0 0 (by decide) rfl (by decide +kernel) rfl rfl dX5_keepsState_50 ?_
    refine g_iconst cx dX5_keepsState_53 kc_i0 ?_
    refine g_aload_n cx dX5_keepsState_54 rfl ?_
    refine g_get (C := RX5) (T := TX5) (N := 14) (ci := 5) cx hiX5 0 1 (by decide) rfl (by decide +kernel) rfl rfl dX5_keepsState_55 ?_
    refine g_bipush cx dX5_keepsState_58 kc_b67 ?_
    refine g_aload_n cx dX5_keepsState_60 rfl ?_
    refine g_get (C := RX5) (T := TX5) (N := 14) (ci := 5) cx hiX5 0 4 (by decide) rfl (by decide +kernel) rfl rfl dX5_keepsState_61 ?_
    refine g_imul cx dX5_keepsState_64 ?_
    refine g_top (pk_mul 67 hN) ?_
    refine g_callS (ws' := [(h, .inr (5, [.ref an, .ref ap_, .ref asl, .ref ah, .int (nI hN), .ref ax, .int (nI tyN), .int th, .int (nI at_), .ref atd, .int (nI tlN), .ref av, .ref ae, .int go])), (an, .inl (E.2.1 0, 67, .inl nw)), (ap_, .inl (E.2.1 0, 402, .inl (va_cpy nw ps 0 (67 * hN) 67))), (asl, .inl (E.2.1 0, 134, .inl sl)), (ah, .inl (E.2.1 0, 2, .inl hsl)), (ax, .inl (E.2.1 0, 80, .inl (fun j => nI (T j)))), (atd, .inl (E.2.1 0, 123, .inl td)), (av, .inl (E.2.1 0, 64, .inl va)), (ae, .inl (E.2.1 0, 64, .inl er))]) (As := [.ref an, .int (nI 0), .ref ap_, .int (nI (67 * hN))]) (rest := []) (n := 4) cx (c_X5_copies l E an 67 nw 0 ap_ 402 ps (67 * hN) (by omega) (by omega) (by omega) (by omega)) gX5_keepsState_X5_copies rfl (by decide +kernel) rfl rfl ⟨Nat.le_of_ble_eq_true rfl, Nat.le_of_ble_eq_true rfl⟩ ⟨Nat.zero_le _, Nat.zero_le _⟩ [1, 2] (by decide) rfl rfl rfl rfl (Nat.le_of_ble_eq_true rfl) dX5_keepsState_65 ?_
    refine g_aload_n cx dX5_keepsState_68 rfl ?_
    refine g_dup cx dX5_keepsState_69 rfl ?_
    refine g_get (C := RX5) (T := TX5) (N := 14) (ci := 5) cx hiX5 0 4 (by decide) rfl (by decide +kernel) rfl rfl dX5_keepsState_70 ?_
    refine g_iconst cx dX5_keepsState_73 kc_i1 ?_
    refine g_iadd cx dX5_keepsState_74 ?_
    refine g_top (nI_add hN 1) ?_
    refine g_put (ws' := [(h, .inr (5, [.ref an, .ref ap_, .ref asl, .ref ah, .int (nI (hN + 1)), .ref ax, .int (nI tyN), .int th, .int (nI at_), .ref atd, .int (nI tlN), .ref av, .ref ae, .int go])), (an, .inl (E.2.1 0, 67, .inl nw)), (ap_, .inl (E.2.1 0, 402, .inl (va_cpy nw ps 0 (67 * hN) 67))), (asl, .inl (E.2.1 0, 134, .inl sl)), (ah, .inl (E.2.1 0, 2, .inl hsl)), (ax, .inl (E.2.1 0, 80, .inl (fun j => nI (T j)))), (atd, .inl (E.2.1 0, 123, .inl td)), (av, .inl (E.2.1 0, 64, .inl va)), (ae, .inl (E.2.1 0, 64, .inl er))]) (C := RX5) (T := TX5) (N := 14) (ci := 5) cx hiX5 tyX5 tyX5_ok nmX5 0 4 (by decide) rfl (by decide +kernel) rfl rfl rfl rfl rfl (Nat.le_of_ble_eq_true rfl) rfl dX5_keepsState_75 ?_
    exact g_vretE cx dX5_keepsState_78 (by first | rfl | (rw [show kN hN = hN + 1 from if_neg (by assumption), show kP ps nw hN = va_cpy nw ps 0 (67 * hN) 67 from if_neg (by assumption)]))
  ·
    have z1 := gn_eq (a := hN) (b := 6) (by omega) (by omega) z1
    obtain rfl : hN = 6 := by omega
    refine g_iconst cx dX5_keepsState_9 kc_i0 ?_
    refine g_istore_n (lv' := [(1, .int (nI 0)), (0, .ref h)]) cx dX5_keepsState_10 rfl (by decide) rfl ?_
    have L11 : ∀ (n_ : Nat) (k : Nat) (g : Nat → Int32), 335 - k < n_ → g = shl ps k → k ≤ 335 → gG pX l eX ({ frames := 1, cells := 0, slots := 0, locals := 24 } : Room) sX mX ([.ref h] : List Value).toArray bX tX cX 2 E A (MQ bX (gQ E [(h, .inr (5, [.ref an, .ref ap_, .ref asl, .ref ah, .int (nI (kN 6)), .ref ax, .int (nI tyN), .int th, .int (nI at_), .ref atd, .int (nI tlN), .ref av, .ref ae, .int go])), (an, .inl (E.2.1 0, 67, .inl nw)), (ap_, .inl (E.2.1 0, 402, .inl (kP ps nw 6))), (asl, .inl (E.2.1 0, 134, .inl sl)), (ah, .inl (E.2.1 0, 2, .inl hsl)), (ax, .inl (E.2.1 0, 80, .inl (fun j => nI (T j)))), (atd, .inl (E.2.1 0, 123, .inl td)), (av, .inl (E.2.1 0, 64, .inl va)), (ae, .inl (E.2.1 0, 64, .inl er))] none A) ([.ref h] : List Value).toArray sX 0 0 A) 0 0 [(h, .inr (5, [.ref an, .ref ap_, .ref asl, .ref ah, .int (nI 6), .ref ax, .int (nI tyN), .int th, .int (nI at_), .ref atd, .int (nI tlN), .ref av, .ref ae, .int go])), (an, .inl (E.2.1 0, 67, .inl nw)), (ap_, .inl (E.2.1 0, 402, .inl g)), (asl, .inl (E.2.1 0, 134, .inl sl)), (ah, .inl (E.2.1 0, 2, .inl hsl)), (ax, .inl (E.2.1 0, 80, .inl (fun j => nI (T j)))), (atd, .inl (E.2.1 0, 123, .inl td)), (av, .inl (E.2.1 0, 64, .inl va)), (ae, .inl (E.2.1 0, 64, .inl er))] [(0, .ref h), (1, .int (nI k))] [] 11 := by
      intro n_
      induction n_ with
      | zero => intro k g hm_; exact absurd hm_ (Nat.not_lt_zero _)
      | succ n_ ih_L11 =>
        intro k g hm_ e_g hk
        subst e_g
        refine g_iload_n cx dX5_keepsState_11 rfl ?_
        refine g_sipush cx dX5_keepsState_12 kc_s335 ?_
        refine g_icmp_ge (tgt := 39) cx dX5_keepsState_15 (by decide) (fun z2 => ?_) (fun z2 => ?_)
        ·
          have z2 := gn_le (a := 335) (b := k) (by omega) (by omega) z2
          obtain rfl : k = 335 := by omega
          refine g_aload_n cx dX5_keepsState_39 rfl ?_
          refine g_dup cx dX5_keepsState_40 rfl ?_
          refine g_get (C := RX5) (T := TX5) (N := 14) (ci := 5) cx hiX5 0 4 (by decide) rfl (by decide +kernel) rfl rfl dX5_keepsState_41 ?_
          refine g_iconst cx dX5_keepsState_44 kc_i1 ?_
          refine g_isub cx dX5_keepsState_45 ?_
          refine g_top (show (nI 6) - (nI 1) = nI 5 from by decide +kernel) ?_
          refine g_put (ws' := [(h, .inr (5, [.ref an, .ref ap_, .ref asl, .ref ah, .int (nI 5), .ref ax, .int (nI tyN), .int th, .int (nI at_), .ref atd, .int (nI tlN), .ref av, .ref ae, .int go])), (an, .inl (E.2.1 0, 67, .inl nw)), (ap_, .inl (E.2.1 0, 402, .inl (shl ps 335))), (asl, .inl (E.2.1 0, 134, .inl sl)), (ah, .inl (E.2.1 0, 2, .inl hsl)), (ax, .inl (E.2.1 0, 80, .inl (fun j => nI (T j)))), (atd, .inl (E.2.1 0, 123, .inl td)), (av, .inl (E.2.1 0, 64, .inl va)), (ae, .inl (E.2.1 0, 64, .inl er))]) (C := RX5) (T := TX5) (N := 14) (ci := 5) cx hiX5 tyX5 tyX5_ok nmX5 0 4 (by decide) rfl (by decide +kernel) rfl rfl rfl rfl rfl (Nat.le_of_ble_eq_true rfl) rfl dX5_keepsState_46 ?_
          refine g_aload_n cx dX5_keepsState_49 rfl ?_
          refine g_get (C := RX5) (T := TX5) (N := 14) (ci := 5) cx hiX5 0 0 (by decide) rfl (by decide +kernel) rfl rfl dX5_keepsState_50 ?_
          refine g_iconst cx dX5_keepsState_53 kc_i0 ?_
          refine g_aload_n cx dX5_keepsState_54 rfl ?_
          refine g_get (C := RX5) (T := TX5) (N := 14) (ci := 5) cx hiX5 0 1 (by decide) rfl (by decide +kernel) rfl rfl dX5_keepsState_55 ?_
          refine g_bipush cx dX5_keepsState_58 kc_b67 ?_
          refine g_aload_n cx dX5_keepsState_60 rfl ?_
          refine g_get (C := RX5) (T := TX5) (N := 14) (ci := 5) cx hiX5 0 4 (by decide) rfl (by decide +kernel) rfl rfl dX5_keepsState_61 ?_
          refine g_imul cx dX5_keepsState_64 ?_
          refine g_top (show (nI 67) * (nI 5) = nI 335 by decide +kernel) ?_
          refine g_callS (ws' := [(h, .inr (5, [.ref an, .ref ap_, .ref asl, .ref ah, .int (nI 5), .ref ax, .int (nI tyN), .int th, .int (nI at_), .ref atd, .int (nI tlN), .ref av, .ref ae, .int go])), (an, .inl (E.2.1 0, 67, .inl nw)), (ap_, .inl (E.2.1 0, 402, .inl (va_cpy nw (shl ps 335) 0 335 67))), (asl, .inl (E.2.1 0, 134, .inl sl)), (ah, .inl (E.2.1 0, 2, .inl hsl)), (ax, .inl (E.2.1 0, 80, .inl (fun j => nI (T j)))), (atd, .inl (E.2.1 0, 123, .inl td)), (av, .inl (E.2.1 0, 64, .inl va)), (ae, .inl (E.2.1 0, 64, .inl er))]) (As := [.ref an, .int (nI 0), .ref ap_, .int (nI 335)]) (rest := []) (n := 4) cx (c_X5_copies l E an 67 nw 0 ap_ 402 (shl ps 335) 335 (by omega) (by omega) (by omega) (by omega)) gX5_keepsState_X5_copies rfl (by decide +kernel) rfl rfl ⟨Nat.le_of_ble_eq_true rfl, Nat.le_of_ble_eq_true rfl⟩ ⟨Nat.zero_le _, Nat.zero_le _⟩ [1, 2] (by decide) rfl rfl rfl rfl (Nat.le_of_ble_eq_true rfl) dX5_keepsState_65 ?_
          refine g_aload_n cx dX5_keepsState_68 rfl ?_
          refine g_dup cx dX5_keepsState_69 rfl ?_
          refine g_get (C := RX5) (T := TX5) (N := 14) (ci := 5) cx hiX5 0 4 (by decide) rfl (by decide +kernel) rfl rfl dX5_keepsState_70 ?_
          refine g_iconst cx dX5_keepsState_73 kc_i1 ?_
          refine g_iadd cx dX5_keepsState_74 ?_
          refine g_top (show (nI 5) + (nI 1) = nI 6 by decide +kernel) ?_
          refine g_put (ws' := [(h, .inr (5, [.ref an, .ref ap_, .ref asl, .ref ah, .int (nI 6), .ref ax, .int (nI tyN), .int th, .int (nI at_), .ref atd, .int (nI tlN), .ref av, .ref ae, .int go])), (an, .inl (E.2.1 0, 67, .inl nw)), (ap_, .inl (E.2.1 0, 402, .inl (va_cpy nw (shl ps 335) 0 335 67))), (asl, .inl (E.2.1 0, 134, .inl sl)), (ah, .inl (E.2.1 0, 2, .inl hsl)), (ax, .inl (E.2.1 0, 80, .inl (fun j => nI (T j)))), (atd, .inl (E.2.1 0, 123, .inl td)), (av, .inl (E.2.1 0, 64, .inl va)), (ae, .inl (E.2.1 0, 64, .inl er))]) (C := RX5) (T := TX5) (N := 14) (ci := 5) cx hiX5 tyX5 tyX5_ok nmX5 0 4 (by decide) rfl (by decide +kernel) rfl rfl rfl rfl rfl (Nat.le_of_ble_eq_true rfl) rfl dX5_keepsState_75 ?_
          exact g_vretE cx dX5_keepsState_78 (by first | rfl | (rw [show kN 6 = 6 + 1 from if_neg (by assumption), show kP ps nw 6 = va_cpy nw ps 0 (67 * 6) 67 from if_neg (by assumption)]))
        ·
          have z2 := gn_nle (a := 335) (b := k) (by omega) (by omega) z2
          refine g_aload_n cx dX5_keepsState_18 rfl ?_
          refine g_get (C := RX5) (T := TX5) (N := 14) (ci := 5) cx hiX5 0 1 (by decide) rfl (by decide +kernel) rfl rfl dX5_keepsState_19 ?_
          refine g_iload_n cx dX5_keepsState_22 rfl ?_
          refine g_aload_n cx dX5_keepsState_23 rfl ?_
          refine g_get (C := RX5) (T := TX5) (N := 14) (ci := 5) cx hiX5 0 1 (by decide) rfl (by decide +kernel) rfl rfl dX5_keepsState_24 ?_
          refine g_iload_n cx dX5_keepsState_27 rfl ?_
          refine g_bipush cx dX5_keepsState_28 kc_b67 ?_
          refine g_iadd cx dX5_keepsState_30 ?_
          refine g_top (nI_add k 67) ?_
          refine g_iald cx 2 rfl rfl (vp_in_nI (by omega) (by omega)) (congrArg _ (nI_clamp (by omega))) dX5_keepsState_31 ?_
          refine g_iast (ws' := [(h, .inr (5, [.ref an, .ref ap_, .ref asl, .ref ah, .int (nI 6), .ref ax, .int (nI tyN), .int th, .int (nI at_), .ref atd, .int (nI tlN), .ref av, .ref ae, .int go])), (an, .inl (E.2.1 0, 67, .inl nw)), (ap_, .inl (E.2.1 0, 402, .inl (upd (shl ps k) k ((shl ps k) (k + 67))))), (asl, .inl (E.2.1 0, 134, .inl sl)), (ah, .inl (E.2.1 0, 2, .inl hsl)), (ax, .inl (E.2.1 0, 80, .inl (fun j => nI (T j)))), (atd, .inl (E.2.1 0, 123, .inl td)), (av, .inl (E.2.1 0, 64, .inl va)), (ae, .inl (E.2.1 0, 64, .inl er))]) cx 2 rfl rfl (vp_in_nI (by omega) (by omega)) (by rw [nI_clamp (by omega)]; rfl) dX5_keepsState_32 ?_
          refine g_iinc (lv' := [(1, .int (nI (k + 1))), (0, .ref h)]) (k := 1) cx dX5_keepsState_33 rfl (gn_inc1 k) (by decide) rfl ?_
          refine g_goto (tgt := 11) cx dX5_keepsState_36 (by decide) ?_
          refine g_lv [1, 0] rfl ?_
          exact ih_L11 (k + 1) (upd (shl ps k) k ((shl ps k) (k + 67))) (by omega) (shl_s _ _) (by omega)
    refine g_lv [1, 0] rfl ?_
    exact L11 (335 - 0 + 1) 0 ps (by omega) (shl_0 _) (by omega)
set_option maxRecDepth 100000 in
set_option maxHeartbeats 4000000 in
theorem c_X5_neighbours (l : Launch) (E : gEnv) (r : Nat) (hr : r < 4) : gM l yX5_neighbours wsX5_neighbours ({ frames := 0, cells := 0, slots := 0, locals := 0 } : Room) E [.int (nI r)] [] [] (some (.int (nI (cntR r)))) := by
  refine gM.ofG (cc := cX5_neighbours) (nL := 1) (ret := (some .int)) (own := RX5) [(0, .int (nI r))] (by decide) rfl rfl (Nat.le_of_ble_eq_true rfl) rfl rfl ?_
  intro pX eX sX mX bX tX cX A cx
  refine g_iload_n cx dX5_neighbours_0 rfl ?_
  refine g_if_ne (tgt := 8) cx dX5_neighbours_1 (by decide) (fun z1 => ?_) (fun z1 => ?_)
  ·
    have z1 := gn_ne0 z1
    refine g_iload_n cx dX5_neighbours_8 rfl ?_
    refine g_iconst cx dX5_neighbours_9 kc_i1 ?_
    refine g_icmp_ne (tgt := 17) cx dX5_neighbours_10 (by decide) (fun z2 => ?_) (fun z2 => ?_)
    ·
      have z2 := gn_ne (a := r) (b := 1) z2
      refine g_iload_n cx dX5_neighbours_17 rfl ?_
      refine g_iconst cx dX5_neighbours_18 kc_i2 ?_
      refine g_icmp_ne (tgt := 26) cx dX5_neighbours_19 (by decide) (fun z3 => ?_) (fun z3 => ?_)
      ·
        have z3 := gn_ne (a := r) (b := 2) z3
        refine g_iconst cx dX5_neighbours_26 kc_i5 ?_
        exact g_iretE cx dX5_neighbours_27 (rfl) (by first | (obtain rfl : r = 0 := (by omega); decide) | (obtain rfl : r = 1 := (by omega); decide) | (obtain rfl : r = 2 := (by omega); decide) | (obtain rfl : r = 3 := (by omega); decide))
      ·
        have z3 := gn_eq (a := r) (b := 2) (by omega) (by omega) z3
        refine g_iconst cx dX5_neighbours_22 kc_i4 ?_
        refine g_goto (tgt := 27) cx dX5_neighbours_23 (by decide) ?_
        exact g_iretE cx dX5_neighbours_27 (rfl) (by first | (obtain rfl : r = 0 := (by omega); decide) | (obtain rfl : r = 1 := (by omega); decide) | (obtain rfl : r = 2 := (by omega); decide) | (obtain rfl : r = 3 := (by omega); decide))
    ·
      have z2 := gn_eq (a := r) (b := 1) (by omega) (by omega) z2
      refine g_iconst cx dX5_neighbours_13 kc_i2 ?_
      refine g_goto (tgt := 27) cx dX5_neighbours_14 (by decide) ?_
      exact g_iretE cx dX5_neighbours_27 (rfl) (by first | (obtain rfl : r = 0 := (by omega); decide) | (obtain rfl : r = 1 := (by omega); decide) | (obtain rfl : r = 2 := (by omega); decide) | (obtain rfl : r = 3 := (by omega); decide))
  ·
    have z1 := gn_eq0 (by omega) z1
    refine g_iconst cx dX5_neighbours_4 kc_i1 ?_
    refine g_goto (tgt := 27) cx dX5_neighbours_5 (by decide) ?_
    exact g_iretE cx dX5_neighbours_27 (rfl) (by first | (obtain rfl : r = 0 := (by omega); decide) | (obtain rfl : r = 1 := (by omega); decide) | (obtain rfl : r = 2 := (by omega); decide) | (obtain rfl : r = 3 := (by omega); decide))
set_option maxRecDepth 100000 in
set_option maxHeartbeats 4000000 in
theorem c_X5_down (l : Launch) (E : gEnv) (r : Nat) (k : Nat) (hr : r < 4) (hk : k < cntR r) : gM l yX5_down wsX5_down ({ frames := 1, cells := 0, slots := 0, locals := 20 } : Room) E [.int (nI r), .int (nI k)] [] [] (some (.int (nI (nD (nF r + k))))) := by
  refine gM.ofG (cc := cX5_down) (nL := 2) (ret := (some .int)) (own := RX5) [(0, .int (nI r)), (1, .int (nI k))] (by decide) rfl rfl (Nat.le_of_ble_eq_true rfl) rfl rfl ?_
  intro pX eX sX mX bX tX cX A cx
  rcases rk_cases hr hk with ⟨rfl, rfl⟩ | ⟨rfl, rfl⟩ | ⟨rfl, rfl⟩ | ⟨rfl, rfl⟩ | ⟨rfl, rfl⟩ | ⟨rfl, rfl⟩ | ⟨rfl, rfl⟩ | ⟨rfl, rfl⟩ | ⟨rfl, rfl⟩ | ⟨rfl, rfl⟩ | ⟨rfl, rfl⟩ | ⟨rfl, rfl⟩
  ·
    refine g_iload_n cx dX5_down_0 rfl ?_
    refine g_iload_n cx dX5_down_1 rfl ?_
    refine g_callS (ws' := []) (As := [.int (nI 0)]) (rest := [.int (nI 0)]) (n := 1) cx (c_X5_neighbours l E 0 (by omega)) gX5_down_X5_neighbours rfl (by decide +kernel) rfl rfl ⟨Nat.le_of_ble_eq_true rfl, Nat.le_of_ble_eq_true rfl⟩ ⟨Nat.zero_le _, Nat.zero_le _⟩ [] (by decide) rfl rfl rfl rfl (Nat.le_of_ble_eq_true rfl) dX5_down_2 ?_
    refine g_top (show nI (cntR 0) = nI 1 from by decide +kernel) ?_
    refine g_iconst cx dX5_down_5 kc_i1 ?_
    refine g_isub cx dX5_down_6 ?_
    refine g_top (show (nI 1) - (nI 1) = nI 0 from by decide +kernel) ?_
    refine g_icmp_ne (tgt := 14) cx dX5_down_7 (by decide) (fun z1 => absurd z1 (by decide +kernel)) (fun z1 => ?_)
    have z1 := gn_eq (a := 0) (b := 0) (by omega) (by omega) z1
    refine g_iconst cx dX5_down_10 kc_i0 ?_
    refine g_goto (tgt := 41) cx dX5_down_11 (by decide) ?_
    exact g_iretE cx dX5_down_41 (rfl) (by decide +kernel)
  ·
    refine g_iload_n cx dX5_down_0 rfl ?_
    refine g_iload_n cx dX5_down_1 rfl ?_
    refine g_callS (ws' := []) (As := [.int (nI 1)]) (rest := [.int (nI 0)]) (n := 1) cx (c_X5_neighbours l E 1 (by omega)) gX5_down_X5_neighbours rfl (by decide +kernel) rfl rfl ⟨Nat.le_of_ble_eq_true rfl, Nat.le_of_ble_eq_true rfl⟩ ⟨Nat.zero_le _, Nat.zero_le _⟩ [] (by decide) rfl rfl rfl rfl (Nat.le_of_ble_eq_true rfl) dX5_down_2 ?_
    refine g_top (show nI (cntR 1) = nI 2 from by decide +kernel) ?_
    refine g_iconst cx dX5_down_5 kc_i1 ?_
    refine g_isub cx dX5_down_6 ?_
    refine g_top (show (nI 2) - (nI 1) = nI 1 from by decide +kernel) ?_
    refine g_icmp_ne (tgt := 14) cx dX5_down_7 (by decide) (fun z2 => ?_) (fun z2 => absurd z2 (by decide +kernel))
    have z2 := gn_ne (a := 0) (b := 1) z2
    refine g_iload_n cx dX5_down_14 rfl ?_
    refine g_iconst cx dX5_down_15 kc_i3 ?_
    refine g_icmp_eq (tgt := 23) cx dX5_down_16 (by decide) (fun z3 => absurd z3 (by decide +kernel)) (fun z3 => ?_)
    have z3 := gn_ne (a := 1) (b := 3) z3
    refine g_iconst cx dX5_down_19 kc_i1 ?_
    refine g_goto (tgt := 41) cx dX5_down_20 (by decide) ?_
    exact g_iretE cx dX5_down_41 (rfl) (by decide +kernel)
  ·
    refine g_iload_n cx dX5_down_0 rfl ?_
    refine g_iload_n cx dX5_down_1 rfl ?_
    refine g_callS (ws' := []) (As := [.int (nI 1)]) (rest := [.int (nI 1)]) (n := 1) cx (c_X5_neighbours l E 1 (by omega)) gX5_down_X5_neighbours rfl (by decide +kernel) rfl rfl ⟨Nat.le_of_ble_eq_true rfl, Nat.le_of_ble_eq_true rfl⟩ ⟨Nat.zero_le _, Nat.zero_le _⟩ [] (by decide) rfl rfl rfl rfl (Nat.le_of_ble_eq_true rfl) dX5_down_2 ?_
    refine g_top (show nI (cntR 1) = nI 2 from by decide +kernel) ?_
    refine g_iconst cx dX5_down_5 kc_i1 ?_
    refine g_isub cx dX5_down_6 ?_
    refine g_top (show (nI 2) - (nI 1) = nI 1 from by decide +kernel) ?_
    refine g_icmp_ne (tgt := 14) cx dX5_down_7 (by decide) (fun z4 => absurd z4 (by decide +kernel)) (fun z4 => ?_)
    have z4 := gn_eq (a := 1) (b := 1) (by omega) (by omega) z4
    refine g_iconst cx dX5_down_10 kc_i0 ?_
    refine g_goto (tgt := 41) cx dX5_down_11 (by decide) ?_
    exact g_iretE cx dX5_down_41 (rfl) (by decide +kernel)
  ·
    refine g_iload_n cx dX5_down_0 rfl ?_
    refine g_iload_n cx dX5_down_1 rfl ?_
    refine g_callS (ws' := []) (As := [.int (nI 2)]) (rest := [.int (nI 0)]) (n := 1) cx (c_X5_neighbours l E 2 (by omega)) gX5_down_X5_neighbours rfl (by decide +kernel) rfl rfl ⟨Nat.le_of_ble_eq_true rfl, Nat.le_of_ble_eq_true rfl⟩ ⟨Nat.zero_le _, Nat.zero_le _⟩ [] (by decide) rfl rfl rfl rfl (Nat.le_of_ble_eq_true rfl) dX5_down_2 ?_
    refine g_top (show nI (cntR 2) = nI 4 from by decide +kernel) ?_
    refine g_iconst cx dX5_down_5 kc_i1 ?_
    refine g_isub cx dX5_down_6 ?_
    refine g_top (show (nI 4) - (nI 1) = nI 3 from by decide +kernel) ?_
    refine g_icmp_ne (tgt := 14) cx dX5_down_7 (by decide) (fun z5 => ?_) (fun z5 => absurd z5 (by decide +kernel))
    have z5 := gn_ne (a := 0) (b := 3) z5
    refine g_iload_n cx dX5_down_14 rfl ?_
    refine g_iconst cx dX5_down_15 kc_i3 ?_
    refine g_icmp_eq (tgt := 23) cx dX5_down_16 (by decide) (fun z6 => absurd z6 (by decide +kernel)) (fun z6 => ?_)
    have z6 := gn_ne (a := 2) (b := 3) z6
    refine g_iconst cx dX5_down_19 kc_i1 ?_
    refine g_goto (tgt := 41) cx dX5_down_20 (by decide) ?_
    exact g_iretE cx dX5_down_41 (rfl) (by decide +kernel)
  ·
    refine g_iload_n cx dX5_down_0 rfl ?_
    refine g_iload_n cx dX5_down_1 rfl ?_
    refine g_callS (ws' := []) (As := [.int (nI 2)]) (rest := [.int (nI 1)]) (n := 1) cx (c_X5_neighbours l E 2 (by omega)) gX5_down_X5_neighbours rfl (by decide +kernel) rfl rfl ⟨Nat.le_of_ble_eq_true rfl, Nat.le_of_ble_eq_true rfl⟩ ⟨Nat.zero_le _, Nat.zero_le _⟩ [] (by decide) rfl rfl rfl rfl (Nat.le_of_ble_eq_true rfl) dX5_down_2 ?_
    refine g_top (show nI (cntR 2) = nI 4 from by decide +kernel) ?_
    refine g_iconst cx dX5_down_5 kc_i1 ?_
    refine g_isub cx dX5_down_6 ?_
    refine g_top (show (nI 4) - (nI 1) = nI 3 from by decide +kernel) ?_
    refine g_icmp_ne (tgt := 14) cx dX5_down_7 (by decide) (fun z7 => ?_) (fun z7 => absurd z7 (by decide +kernel))
    have z7 := gn_ne (a := 1) (b := 3) z7
    refine g_iload_n cx dX5_down_14 rfl ?_
    refine g_iconst cx dX5_down_15 kc_i3 ?_
    refine g_icmp_eq (tgt := 23) cx dX5_down_16 (by decide) (fun z8 => absurd z8 (by decide +kernel)) (fun z8 => ?_)
    have z8 := gn_ne (a := 2) (b := 3) z8
    refine g_iconst cx dX5_down_19 kc_i1 ?_
    refine g_goto (tgt := 41) cx dX5_down_20 (by decide) ?_
    exact g_iretE cx dX5_down_41 (rfl) (by decide +kernel)
  ·
    refine g_iload_n cx dX5_down_0 rfl ?_
    refine g_iload_n cx dX5_down_1 rfl ?_
    refine g_callS (ws' := []) (As := [.int (nI 2)]) (rest := [.int (nI 2)]) (n := 1) cx (c_X5_neighbours l E 2 (by omega)) gX5_down_X5_neighbours rfl (by decide +kernel) rfl rfl ⟨Nat.le_of_ble_eq_true rfl, Nat.le_of_ble_eq_true rfl⟩ ⟨Nat.zero_le _, Nat.zero_le _⟩ [] (by decide) rfl rfl rfl rfl (Nat.le_of_ble_eq_true rfl) dX5_down_2 ?_
    refine g_top (show nI (cntR 2) = nI 4 from by decide +kernel) ?_
    refine g_iconst cx dX5_down_5 kc_i1 ?_
    refine g_isub cx dX5_down_6 ?_
    refine g_top (show (nI 4) - (nI 1) = nI 3 from by decide +kernel) ?_
    refine g_icmp_ne (tgt := 14) cx dX5_down_7 (by decide) (fun z9 => ?_) (fun z9 => absurd z9 (by decide +kernel))
    have z9 := gn_ne (a := 2) (b := 3) z9
    refine g_iload_n cx dX5_down_14 rfl ?_
    refine g_iconst cx dX5_down_15 kc_i3 ?_
    refine g_icmp_eq (tgt := 23) cx dX5_down_16 (by decide) (fun z10 => absurd z10 (by decide +kernel)) (fun z10 => ?_)
    have z10 := gn_ne (a := 2) (b := 3) z10
    refine g_iconst cx dX5_down_19 kc_i1 ?_
    refine g_goto (tgt := 41) cx dX5_down_20 (by decide) ?_
    exact g_iretE cx dX5_down_41 (rfl) (by decide +kernel)
  ·
    refine g_iload_n cx dX5_down_0 rfl ?_
    refine g_iload_n cx dX5_down_1 rfl ?_
    refine g_callS (ws' := []) (As := [.int (nI 2)]) (rest := [.int (nI 3)]) (n := 1) cx (c_X5_neighbours l E 2 (by omega)) gX5_down_X5_neighbours rfl (by decide +kernel) rfl rfl ⟨Nat.le_of_ble_eq_true rfl, Nat.le_of_ble_eq_true rfl⟩ ⟨Nat.zero_le _, Nat.zero_le _⟩ [] (by decide) rfl rfl rfl rfl (Nat.le_of_ble_eq_true rfl) dX5_down_2 ?_
    refine g_top (show nI (cntR 2) = nI 4 from by decide +kernel) ?_
    refine g_iconst cx dX5_down_5 kc_i1 ?_
    refine g_isub cx dX5_down_6 ?_
    refine g_top (show (nI 4) - (nI 1) = nI 3 from by decide +kernel) ?_
    refine g_icmp_ne (tgt := 14) cx dX5_down_7 (by decide) (fun z11 => absurd z11 (by decide +kernel)) (fun z11 => ?_)
    have z11 := gn_eq (a := 3) (b := 3) (by omega) (by omega) z11
    refine g_iconst cx dX5_down_10 kc_i0 ?_
    refine g_goto (tgt := 41) cx dX5_down_11 (by decide) ?_
    exact g_iretE cx dX5_down_41 (rfl) (by decide +kernel)
  ·
    refine g_iload_n cx dX5_down_0 rfl ?_
    refine g_iload_n cx dX5_down_1 rfl ?_
    refine g_callS (ws' := []) (As := [.int (nI 3)]) (rest := [.int (nI 0)]) (n := 1) cx (c_X5_neighbours l E 3 (by omega)) gX5_down_X5_neighbours rfl (by decide +kernel) rfl rfl ⟨Nat.le_of_ble_eq_true rfl, Nat.le_of_ble_eq_true rfl⟩ ⟨Nat.zero_le _, Nat.zero_le _⟩ [] (by decide) rfl rfl rfl rfl (Nat.le_of_ble_eq_true rfl) dX5_down_2 ?_
    refine g_top (show nI (cntR 3) = nI 5 from by decide +kernel) ?_
    refine g_iconst cx dX5_down_5 kc_i1 ?_
    refine g_isub cx dX5_down_6 ?_
    refine g_top (show (nI 5) - (nI 1) = nI 4 from by decide +kernel) ?_
    refine g_icmp_ne (tgt := 14) cx dX5_down_7 (by decide) (fun z12 => ?_) (fun z12 => absurd z12 (by decide +kernel))
    have z12 := gn_ne (a := 0) (b := 4) z12
    refine g_iload_n cx dX5_down_14 rfl ?_
    refine g_iconst cx dX5_down_15 kc_i3 ?_
    refine g_icmp_eq (tgt := 23) cx dX5_down_16 (by decide) (fun z13 => ?_) (fun z13 => absurd z13 (by decide +kernel))
    have z13 := gn_eq (a := 3) (b := 3) (by omega) (by omega) z13
    refine g_iload_n cx dX5_down_23 rfl ?_
    refine g_if_ne (tgt := 31) cx dX5_down_24 (by decide) (fun z14 => absurd z14 (by decide +kernel)) (fun z14 => ?_)
    have z14 := gn_eq0 (by omega) z14
    refine g_iconst cx dX5_down_27 kc_i2 ?_
    refine g_goto (tgt := 41) cx dX5_down_28 (by decide) ?_
    exact g_iretE cx dX5_down_41 (rfl) (by decide +kernel)
  ·
    refine g_iload_n cx dX5_down_0 rfl ?_
    refine g_iload_n cx dX5_down_1 rfl ?_
    refine g_callS (ws' := []) (As := [.int (nI 3)]) (rest := [.int (nI 1)]) (n := 1) cx (c_X5_neighbours l E 3 (by omega)) gX5_down_X5_neighbours rfl (by decide +kernel) rfl rfl ⟨Nat.le_of_ble_eq_true rfl, Nat.le_of_ble_eq_true rfl⟩ ⟨Nat.zero_le _, Nat.zero_le _⟩ [] (by decide) rfl rfl rfl rfl (Nat.le_of_ble_eq_true rfl) dX5_down_2 ?_
    refine g_top (show nI (cntR 3) = nI 5 from by decide +kernel) ?_
    refine g_iconst cx dX5_down_5 kc_i1 ?_
    refine g_isub cx dX5_down_6 ?_
    refine g_top (show (nI 5) - (nI 1) = nI 4 from by decide +kernel) ?_
    refine g_icmp_ne (tgt := 14) cx dX5_down_7 (by decide) (fun z15 => ?_) (fun z15 => absurd z15 (by decide +kernel))
    have z15 := gn_ne (a := 1) (b := 4) z15
    refine g_iload_n cx dX5_down_14 rfl ?_
    refine g_iconst cx dX5_down_15 kc_i3 ?_
    refine g_icmp_eq (tgt := 23) cx dX5_down_16 (by decide) (fun z16 => ?_) (fun z16 => absurd z16 (by decide +kernel))
    have z16 := gn_eq (a := 3) (b := 3) (by omega) (by omega) z16
    refine g_iload_n cx dX5_down_23 rfl ?_
    refine g_if_ne (tgt := 31) cx dX5_down_24 (by decide) (fun z17 => ?_) (fun z17 => absurd z17 (by decide +kernel))
    have z17 := gn_ne0 z17
    refine g_iload_n cx dX5_down_31 rfl ?_
    refine g_iconst cx dX5_down_32 kc_i3 ?_
    refine g_icmp_ne (tgt := 40) cx dX5_down_33 (by decide) (fun z18 => ?_) (fun z18 => absurd z18 (by decide +kernel))
    have z18 := gn_ne (a := 1) (b := 3) z18
    refine g_iconst cx dX5_down_40 kc_i1 ?_
    exact g_iretE cx dX5_down_41 (rfl) (by decide +kernel)
  ·
    refine g_iload_n cx dX5_down_0 rfl ?_
    refine g_iload_n cx dX5_down_1 rfl ?_
    refine g_callS (ws' := []) (As := [.int (nI 3)]) (rest := [.int (nI 2)]) (n := 1) cx (c_X5_neighbours l E 3 (by omega)) gX5_down_X5_neighbours rfl (by decide +kernel) rfl rfl ⟨Nat.le_of_ble_eq_true rfl, Nat.le_of_ble_eq_true rfl⟩ ⟨Nat.zero_le _, Nat.zero_le _⟩ [] (by decide) rfl rfl rfl rfl (Nat.le_of_ble_eq_true rfl) dX5_down_2 ?_
    refine g_top (show nI (cntR 3) = nI 5 from by decide +kernel) ?_
    refine g_iconst cx dX5_down_5 kc_i1 ?_
    refine g_isub cx dX5_down_6 ?_
    refine g_top (show (nI 5) - (nI 1) = nI 4 from by decide +kernel) ?_
    refine g_icmp_ne (tgt := 14) cx dX5_down_7 (by decide) (fun z19 => ?_) (fun z19 => absurd z19 (by decide +kernel))
    have z19 := gn_ne (a := 2) (b := 4) z19
    refine g_iload_n cx dX5_down_14 rfl ?_
    refine g_iconst cx dX5_down_15 kc_i3 ?_
    refine g_icmp_eq (tgt := 23) cx dX5_down_16 (by decide) (fun z20 => ?_) (fun z20 => absurd z20 (by decide +kernel))
    have z20 := gn_eq (a := 3) (b := 3) (by omega) (by omega) z20
    refine g_iload_n cx dX5_down_23 rfl ?_
    refine g_if_ne (tgt := 31) cx dX5_down_24 (by decide) (fun z21 => ?_) (fun z21 => absurd z21 (by decide +kernel))
    have z21 := gn_ne0 z21
    refine g_iload_n cx dX5_down_31 rfl ?_
    refine g_iconst cx dX5_down_32 kc_i3 ?_
    refine g_icmp_ne (tgt := 40) cx dX5_down_33 (by decide) (fun z22 => ?_) (fun z22 => absurd z22 (by decide +kernel))
    have z22 := gn_ne (a := 2) (b := 3) z22
    refine g_iconst cx dX5_down_40 kc_i1 ?_
    exact g_iretE cx dX5_down_41 (rfl) (by decide +kernel)
  ·
    refine g_iload_n cx dX5_down_0 rfl ?_
    refine g_iload_n cx dX5_down_1 rfl ?_
    refine g_callS (ws' := []) (As := [.int (nI 3)]) (rest := [.int (nI 3)]) (n := 1) cx (c_X5_neighbours l E 3 (by omega)) gX5_down_X5_neighbours rfl (by decide +kernel) rfl rfl ⟨Nat.le_of_ble_eq_true rfl, Nat.le_of_ble_eq_true rfl⟩ ⟨Nat.zero_le _, Nat.zero_le _⟩ [] (by decide) rfl rfl rfl rfl (Nat.le_of_ble_eq_true rfl) dX5_down_2 ?_
    refine g_top (show nI (cntR 3) = nI 5 from by decide +kernel) ?_
    refine g_iconst cx dX5_down_5 kc_i1 ?_
    refine g_isub cx dX5_down_6 ?_
    refine g_top (show (nI 5) - (nI 1) = nI 4 from by decide +kernel) ?_
    refine g_icmp_ne (tgt := 14) cx dX5_down_7 (by decide) (fun z23 => ?_) (fun z23 => absurd z23 (by decide +kernel))
    have z23 := gn_ne (a := 3) (b := 4) z23
    refine g_iload_n cx dX5_down_14 rfl ?_
    refine g_iconst cx dX5_down_15 kc_i3 ?_
    refine g_icmp_eq (tgt := 23) cx dX5_down_16 (by decide) (fun z24 => ?_) (fun z24 => absurd z24 (by decide +kernel))
    have z24 := gn_eq (a := 3) (b := 3) (by omega) (by omega) z24
    refine g_iload_n cx dX5_down_23 rfl ?_
    refine g_if_ne (tgt := 31) cx dX5_down_24 (by decide) (fun z25 => ?_) (fun z25 => absurd z25 (by decide +kernel))
    have z25 := gn_ne0 z25
    refine g_iload_n cx dX5_down_31 rfl ?_
    refine g_iconst cx dX5_down_32 kc_i3 ?_
    refine g_icmp_ne (tgt := 40) cx dX5_down_33 (by decide) (fun z26 => absurd z26 (by decide +kernel)) (fun z26 => ?_)
    have z26 := gn_eq (a := 3) (b := 3) (by omega) (by omega) z26
    refine g_iconst cx dX5_down_36 kc_i0 ?_
    refine g_goto (tgt := 41) cx dX5_down_37 (by decide) ?_
    exact g_iretE cx dX5_down_41 (rfl) (by decide +kernel)
  ·
    refine g_iload_n cx dX5_down_0 rfl ?_
    refine g_iload_n cx dX5_down_1 rfl ?_
    refine g_callS (ws' := []) (As := [.int (nI 3)]) (rest := [.int (nI 4)]) (n := 1) cx (c_X5_neighbours l E 3 (by omega)) gX5_down_X5_neighbours rfl (by decide +kernel) rfl rfl ⟨Nat.le_of_ble_eq_true rfl, Nat.le_of_ble_eq_true rfl⟩ ⟨Nat.zero_le _, Nat.zero_le _⟩ [] (by decide) rfl rfl rfl rfl (Nat.le_of_ble_eq_true rfl) dX5_down_2 ?_
    refine g_top (show nI (cntR 3) = nI 5 from by decide +kernel) ?_
    refine g_iconst cx dX5_down_5 kc_i1 ?_
    refine g_isub cx dX5_down_6 ?_
    refine g_top (show (nI 5) - (nI 1) = nI 4 from by decide +kernel) ?_
    refine g_icmp_ne (tgt := 14) cx dX5_down_7 (by decide) (fun z27 => absurd z27 (by decide +kernel)) (fun z27 => ?_)
    have z27 := gn_eq (a := 4) (b := 4) (by omega) (by omega) z27
    refine g_iconst cx dX5_down_10 kc_i0 ?_
    refine g_goto (tgt := 41) cx dX5_down_11 (by decide) ?_
    exact g_iretE cx dX5_down_41 (rfl) (by decide +kernel)
set_option maxRecDepth 100000 in
set_option maxHeartbeats 4000000 in
theorem c_X5_ahead (l : Launch) (E : gEnv) (r : Nat) (k : Nat) (hr : r < 4) (hk : k < cntR r) : gM l yX5_ahead wsX5_ahead ({ frames := 1, cells := 0, slots := 0, locals := 20 } : Room) E [.int (nI r), .int (nI k)] [] [] (some (.int (zA (nF r + k)))) := by
  refine gM.ofG (cc := cX5_ahead) (nL := 2) (ret := (some .int)) (own := RX5) [(0, .int (nI r)), (1, .int (nI k))] (by decide) rfl rfl (Nat.le_of_ble_eq_true rfl) rfl rfl ?_
  intro pX eX sX mX bX tX cX A cx
  rcases rk_cases hr hk with ⟨rfl, rfl⟩ | ⟨rfl, rfl⟩ | ⟨rfl, rfl⟩ | ⟨rfl, rfl⟩ | ⟨rfl, rfl⟩ | ⟨rfl, rfl⟩ | ⟨rfl, rfl⟩ | ⟨rfl, rfl⟩ | ⟨rfl, rfl⟩ | ⟨rfl, rfl⟩ | ⟨rfl, rfl⟩ | ⟨rfl, rfl⟩
  ·
    refine g_iload_n cx dX5_ahead_0 rfl ?_
    refine g_iload_n cx dX5_ahead_1 rfl ?_
    refine g_callS (ws' := []) (As := [.int (nI 0)]) (rest := [.int (nI 0)]) (n := 1) cx (c_X5_neighbours l E 0 (by omega)) gX5_ahead_X5_neighbours rfl (by decide +kernel) rfl rfl ⟨Nat.le_of_ble_eq_true rfl, Nat.le_of_ble_eq_true rfl⟩ ⟨Nat.zero_le _, Nat.zero_le _⟩ [] (by decide) rfl rfl rfl rfl (Nat.le_of_ble_eq_true rfl) dX5_ahead_2 ?_
    refine g_top (show nI (cntR 0) = nI 1 from by decide +kernel) ?_
    refine g_iconst cx dX5_ahead_5 kc_i1 ?_
    refine g_isub cx dX5_ahead_6 ?_
    refine g_top (show (nI 1) - (nI 1) = nI 0 from by decide +kernel) ?_
    refine g_icmp_ne (tgt := 12) cx dX5_ahead_7 (by decide) (fun z1 => absurd z1 (by decide +kernel)) (fun z1 => ?_)
    have z1 := gn_eq (a := 0) (b := 0) (by omega) (by omega) z1
    refine g_iconst cx dX5_ahead_10 kc_i1 ?_
    exact g_iretE cx dX5_ahead_11 (rfl) (by decide +kernel)
  ·
    refine g_iload_n cx dX5_ahead_0 rfl ?_
    refine g_iload_n cx dX5_ahead_1 rfl ?_
    refine g_callS (ws' := []) (As := [.int (nI 1)]) (rest := [.int (nI 0)]) (n := 1) cx (c_X5_neighbours l E 1 (by omega)) gX5_ahead_X5_neighbours rfl (by decide +kernel) rfl rfl ⟨Nat.le_of_ble_eq_true rfl, Nat.le_of_ble_eq_true rfl⟩ ⟨Nat.zero_le _, Nat.zero_le _⟩ [] (by decide) rfl rfl rfl rfl (Nat.le_of_ble_eq_true rfl) dX5_ahead_2 ?_
    refine g_top (show nI (cntR 1) = nI 2 from by decide +kernel) ?_
    refine g_iconst cx dX5_ahead_5 kc_i1 ?_
    refine g_isub cx dX5_ahead_6 ?_
    refine g_top (show (nI 2) - (nI 1) = nI 1 from by decide +kernel) ?_
    refine g_icmp_ne (tgt := 12) cx dX5_ahead_7 (by decide) (fun z2 => ?_) (fun z2 => absurd z2 (by decide +kernel))
    have z2 := gn_ne (a := 0) (b := 1) z2
    refine g_iload_n cx dX5_ahead_12 rfl ?_
    refine g_iconst cx dX5_ahead_13 kc_i1 ?_
    refine g_icmp_ne (tgt := 19) cx dX5_ahead_14 (by decide) (fun z3 => absurd z3 (by decide +kernel)) (fun z3 => ?_)
    have z3 := gn_eq (a := 1) (b := 1) (by omega) (by omega) z3
    refine g_iconst cx dX5_ahead_17 kc_i0 ?_
    exact g_iretE cx dX5_ahead_18 (rfl) (by decide +kernel)
  ·
    refine g_iload_n cx dX5_ahead_0 rfl ?_
    refine g_iload_n cx dX5_ahead_1 rfl ?_
    refine g_callS (ws' := []) (As := [.int (nI 1)]) (rest := [.int (nI 1)]) (n := 1) cx (c_X5_neighbours l E 1 (by omega)) gX5_ahead_X5_neighbours rfl (by decide +kernel) rfl rfl ⟨Nat.le_of_ble_eq_true rfl, Nat.le_of_ble_eq_true rfl⟩ ⟨Nat.zero_le _, Nat.zero_le _⟩ [] (by decide) rfl rfl rfl rfl (Nat.le_of_ble_eq_true rfl) dX5_ahead_2 ?_
    refine g_top (show nI (cntR 1) = nI 2 from by decide +kernel) ?_
    refine g_iconst cx dX5_ahead_5 kc_i1 ?_
    refine g_isub cx dX5_ahead_6 ?_
    refine g_top (show (nI 2) - (nI 1) = nI 1 from by decide +kernel) ?_
    refine g_icmp_ne (tgt := 12) cx dX5_ahead_7 (by decide) (fun z4 => absurd z4 (by decide +kernel)) (fun z4 => ?_)
    have z4 := gn_eq (a := 1) (b := 1) (by omega) (by omega) z4
    refine g_iconst cx dX5_ahead_10 kc_i1 ?_
    exact g_iretE cx dX5_ahead_11 (rfl) (by decide +kernel)
  ·
    refine g_iload_n cx dX5_ahead_0 rfl ?_
    refine g_iload_n cx dX5_ahead_1 rfl ?_
    refine g_callS (ws' := []) (As := [.int (nI 2)]) (rest := [.int (nI 0)]) (n := 1) cx (c_X5_neighbours l E 2 (by omega)) gX5_ahead_X5_neighbours rfl (by decide +kernel) rfl rfl ⟨Nat.le_of_ble_eq_true rfl, Nat.le_of_ble_eq_true rfl⟩ ⟨Nat.zero_le _, Nat.zero_le _⟩ [] (by decide) rfl rfl rfl rfl (Nat.le_of_ble_eq_true rfl) dX5_ahead_2 ?_
    refine g_top (show nI (cntR 2) = nI 4 from by decide +kernel) ?_
    refine g_iconst cx dX5_ahead_5 kc_i1 ?_
    refine g_isub cx dX5_ahead_6 ?_
    refine g_top (show (nI 4) - (nI 1) = nI 3 from by decide +kernel) ?_
    refine g_icmp_ne (tgt := 12) cx dX5_ahead_7 (by decide) (fun z5 => ?_) (fun z5 => absurd z5 (by decide +kernel))
    have z5 := gn_ne (a := 0) (b := 3) z5
    refine g_iload_n cx dX5_ahead_12 rfl ?_
    refine g_iconst cx dX5_ahead_13 kc_i1 ?_
    refine g_icmp_ne (tgt := 19) cx dX5_ahead_14 (by decide) (fun z6 => ?_) (fun z6 => absurd z6 (by decide +kernel))
    have z6 := gn_ne (a := 2) (b := 1) z6
    refine g_iload_n cx dX5_ahead_19 rfl ?_
    refine g_iconst cx dX5_ahead_20 kc_i2 ?_
    refine g_icmp_ne (tgt := 43) cx dX5_ahead_21 (by decide) (fun z7 => absurd z7 (by decide +kernel)) (fun z7 => ?_)
    have z7 := gn_eq (a := 2) (b := 2) (by omega) (by omega) z7
    refine g_iload_n cx dX5_ahead_24 rfl ?_
    refine g_if_ne (tgt := 32) cx dX5_ahead_25 (by decide) (fun z8 => absurd z8 (by decide +kernel)) (fun z8 => ?_)
    have z8 := gn_eq0 (by omega) z8
    refine g_iconst cx dX5_ahead_28 kc_i1 ?_
    refine g_goto (tgt := 42) cx dX5_ahead_29 (by decide) ?_
    exact g_iretE cx dX5_ahead_42 (rfl) (by decide +kernel)
  ·
    refine g_iload_n cx dX5_ahead_0 rfl ?_
    refine g_iload_n cx dX5_ahead_1 rfl ?_
    refine g_callS (ws' := []) (As := [.int (nI 2)]) (rest := [.int (nI 1)]) (n := 1) cx (c_X5_neighbours l E 2 (by omega)) gX5_ahead_X5_neighbours rfl (by decide +kernel) rfl rfl ⟨Nat.le_of_ble_eq_true rfl, Nat.le_of_ble_eq_true rfl⟩ ⟨Nat.zero_le _, Nat.zero_le _⟩ [] (by decide) rfl rfl rfl rfl (Nat.le_of_ble_eq_true rfl) dX5_ahead_2 ?_
    refine g_top (show nI (cntR 2) = nI 4 from by decide +kernel) ?_
    refine g_iconst cx dX5_ahead_5 kc_i1 ?_
    refine g_isub cx dX5_ahead_6 ?_
    refine g_top (show (nI 4) - (nI 1) = nI 3 from by decide +kernel) ?_
    refine g_icmp_ne (tgt := 12) cx dX5_ahead_7 (by decide) (fun z9 => ?_) (fun z9 => absurd z9 (by decide +kernel))
    have z9 := gn_ne (a := 1) (b := 3) z9
    refine g_iload_n cx dX5_ahead_12 rfl ?_
    refine g_iconst cx dX5_ahead_13 kc_i1 ?_
    refine g_icmp_ne (tgt := 19) cx dX5_ahead_14 (by decide) (fun z10 => ?_) (fun z10 => absurd z10 (by decide +kernel))
    have z10 := gn_ne (a := 2) (b := 1) z10
    refine g_iload_n cx dX5_ahead_19 rfl ?_
    refine g_iconst cx dX5_ahead_20 kc_i2 ?_
    refine g_icmp_ne (tgt := 43) cx dX5_ahead_21 (by decide) (fun z11 => absurd z11 (by decide +kernel)) (fun z11 => ?_)
    have z11 := gn_eq (a := 2) (b := 2) (by omega) (by omega) z11
    refine g_iload_n cx dX5_ahead_24 rfl ?_
    refine g_if_ne (tgt := 32) cx dX5_ahead_25 (by decide) (fun z12 => ?_) (fun z12 => absurd z12 (by decide +kernel))
    have z12 := gn_ne0 z12
    refine g_iload_n cx dX5_ahead_32 rfl ?_
    refine g_iconst cx dX5_ahead_33 kc_i1 ?_
    refine g_icmp_ne (tgt := 41) cx dX5_ahead_34 (by decide) (fun z13 => absurd z13 (by decide +kernel)) (fun z13 => ?_)
    have z13 := gn_eq (a := 1) (b := 1) (by omega) (by omega) z13
    refine g_iconst cx dX5_ahead_37 kc_i0 ?_
    refine g_goto (tgt := 42) cx dX5_ahead_38 (by decide) ?_
    exact g_iretE cx dX5_ahead_42 (rfl) (by decide +kernel)
  ·
    refine g_iload_n cx dX5_ahead_0 rfl ?_
    refine g_iload_n cx dX5_ahead_1 rfl ?_
    refine g_callS (ws' := []) (As := [.int (nI 2)]) (rest := [.int (nI 2)]) (n := 1) cx (c_X5_neighbours l E 2 (by omega)) gX5_ahead_X5_neighbours rfl (by decide +kernel) rfl rfl ⟨Nat.le_of_ble_eq_true rfl, Nat.le_of_ble_eq_true rfl⟩ ⟨Nat.zero_le _, Nat.zero_le _⟩ [] (by decide) rfl rfl rfl rfl (Nat.le_of_ble_eq_true rfl) dX5_ahead_2 ?_
    refine g_top (show nI (cntR 2) = nI 4 from by decide +kernel) ?_
    refine g_iconst cx dX5_ahead_5 kc_i1 ?_
    refine g_isub cx dX5_ahead_6 ?_
    refine g_top (show (nI 4) - (nI 1) = nI 3 from by decide +kernel) ?_
    refine g_icmp_ne (tgt := 12) cx dX5_ahead_7 (by decide) (fun z14 => ?_) (fun z14 => absurd z14 (by decide +kernel))
    have z14 := gn_ne (a := 2) (b := 3) z14
    refine g_iload_n cx dX5_ahead_12 rfl ?_
    refine g_iconst cx dX5_ahead_13 kc_i1 ?_
    refine g_icmp_ne (tgt := 19) cx dX5_ahead_14 (by decide) (fun z15 => ?_) (fun z15 => absurd z15 (by decide +kernel))
    have z15 := gn_ne (a := 2) (b := 1) z15
    refine g_iload_n cx dX5_ahead_19 rfl ?_
    refine g_iconst cx dX5_ahead_20 kc_i2 ?_
    refine g_icmp_ne (tgt := 43) cx dX5_ahead_21 (by decide) (fun z16 => absurd z16 (by decide +kernel)) (fun z16 => ?_)
    have z16 := gn_eq (a := 2) (b := 2) (by omega) (by omega) z16
    refine g_iload_n cx dX5_ahead_24 rfl ?_
    refine g_if_ne (tgt := 32) cx dX5_ahead_25 (by decide) (fun z17 => ?_) (fun z17 => absurd z17 (by decide +kernel))
    have z17 := gn_ne0 z17
    refine g_iload_n cx dX5_ahead_32 rfl ?_
    refine g_iconst cx dX5_ahead_33 kc_i1 ?_
    refine g_icmp_ne (tgt := 41) cx dX5_ahead_34 (by decide) (fun z18 => ?_) (fun z18 => absurd z18 (by decide +kernel))
    have z18 := gn_ne (a := 2) (b := 1) z18
    refine g_iconst cx dX5_ahead_41 kc_im1 ?_
    exact g_iretE cx dX5_ahead_42 (rfl) (by decide +kernel)
  ·
    refine g_iload_n cx dX5_ahead_0 rfl ?_
    refine g_iload_n cx dX5_ahead_1 rfl ?_
    refine g_callS (ws' := []) (As := [.int (nI 2)]) (rest := [.int (nI 3)]) (n := 1) cx (c_X5_neighbours l E 2 (by omega)) gX5_ahead_X5_neighbours rfl (by decide +kernel) rfl rfl ⟨Nat.le_of_ble_eq_true rfl, Nat.le_of_ble_eq_true rfl⟩ ⟨Nat.zero_le _, Nat.zero_le _⟩ [] (by decide) rfl rfl rfl rfl (Nat.le_of_ble_eq_true rfl) dX5_ahead_2 ?_
    refine g_top (show nI (cntR 2) = nI 4 from by decide +kernel) ?_
    refine g_iconst cx dX5_ahead_5 kc_i1 ?_
    refine g_isub cx dX5_ahead_6 ?_
    refine g_top (show (nI 4) - (nI 1) = nI 3 from by decide +kernel) ?_
    refine g_icmp_ne (tgt := 12) cx dX5_ahead_7 (by decide) (fun z19 => absurd z19 (by decide +kernel)) (fun z19 => ?_)
    have z19 := gn_eq (a := 3) (b := 3) (by omega) (by omega) z19
    refine g_iconst cx dX5_ahead_10 kc_i1 ?_
    exact g_iretE cx dX5_ahead_11 (rfl) (by decide +kernel)
  ·
    refine g_iload_n cx dX5_ahead_0 rfl ?_
    refine g_iload_n cx dX5_ahead_1 rfl ?_
    refine g_callS (ws' := []) (As := [.int (nI 3)]) (rest := [.int (nI 0)]) (n := 1) cx (c_X5_neighbours l E 3 (by omega)) gX5_ahead_X5_neighbours rfl (by decide +kernel) rfl rfl ⟨Nat.le_of_ble_eq_true rfl, Nat.le_of_ble_eq_true rfl⟩ ⟨Nat.zero_le _, Nat.zero_le _⟩ [] (by decide) rfl rfl rfl rfl (Nat.le_of_ble_eq_true rfl) dX5_ahead_2 ?_
    refine g_top (show nI (cntR 3) = nI 5 from by decide +kernel) ?_
    refine g_iconst cx dX5_ahead_5 kc_i1 ?_
    refine g_isub cx dX5_ahead_6 ?_
    refine g_top (show (nI 5) - (nI 1) = nI 4 from by decide +kernel) ?_
    refine g_icmp_ne (tgt := 12) cx dX5_ahead_7 (by decide) (fun z20 => ?_) (fun z20 => absurd z20 (by decide +kernel))
    have z20 := gn_ne (a := 0) (b := 4) z20
    refine g_iload_n cx dX5_ahead_12 rfl ?_
    refine g_iconst cx dX5_ahead_13 kc_i1 ?_
    refine g_icmp_ne (tgt := 19) cx dX5_ahead_14 (by decide) (fun z21 => ?_) (fun z21 => absurd z21 (by decide +kernel))
    have z21 := gn_ne (a := 3) (b := 1) z21
    refine g_iload_n cx dX5_ahead_19 rfl ?_
    refine g_iconst cx dX5_ahead_20 kc_i2 ?_
    refine g_icmp_ne (tgt := 43) cx dX5_ahead_21 (by decide) (fun z22 => ?_) (fun z22 => absurd z22 (by decide +kernel))
    have z22 := gn_ne (a := 3) (b := 2) z22
    refine g_iload_n cx dX5_ahead_43 rfl ?_
    refine g_iconst cx dX5_ahead_44 kc_i1 ?_
    refine g_icmp_ne (tgt := 52) cx dX5_ahead_45 (by decide) (fun z23 => ?_) (fun z23 => absurd z23 (by decide +kernel))
    have z23 := gn_ne (a := 0) (b := 1) z23
    refine g_iload_n cx dX5_ahead_52 rfl ?_
    refine g_iconst cx dX5_ahead_53 kc_i3 ?_
    refine g_icmp_ne (tgt := 61) cx dX5_ahead_54 (by decide) (fun z24 => ?_) (fun z24 => absurd z24 (by decide +kernel))
    have z24 := gn_ne (a := 0) (b := 3) z24
    refine g_iconst cx dX5_ahead_61 kc_i0 ?_
    exact g_iretE cx dX5_ahead_62 (rfl) (by decide +kernel)
  ·
    refine g_iload_n cx dX5_ahead_0 rfl ?_
    refine g_iload_n cx dX5_ahead_1 rfl ?_
    refine g_callS (ws' := []) (As := [.int (nI 3)]) (rest := [.int (nI 1)]) (n := 1) cx (c_X5_neighbours l E 3 (by omega)) gX5_ahead_X5_neighbours rfl (by decide +kernel) rfl rfl ⟨Nat.le_of_ble_eq_true rfl, Nat.le_of_ble_eq_true rfl⟩ ⟨Nat.zero_le _, Nat.zero_le _⟩ [] (by decide) rfl rfl rfl rfl (Nat.le_of_ble_eq_true rfl) dX5_ahead_2 ?_
    refine g_top (show nI (cntR 3) = nI 5 from by decide +kernel) ?_
    refine g_iconst cx dX5_ahead_5 kc_i1 ?_
    refine g_isub cx dX5_ahead_6 ?_
    refine g_top (show (nI 5) - (nI 1) = nI 4 from by decide +kernel) ?_
    refine g_icmp_ne (tgt := 12) cx dX5_ahead_7 (by decide) (fun z25 => ?_) (fun z25 => absurd z25 (by decide +kernel))
    have z25 := gn_ne (a := 1) (b := 4) z25
    refine g_iload_n cx dX5_ahead_12 rfl ?_
    refine g_iconst cx dX5_ahead_13 kc_i1 ?_
    refine g_icmp_ne (tgt := 19) cx dX5_ahead_14 (by decide) (fun z26 => ?_) (fun z26 => absurd z26 (by decide +kernel))
    have z26 := gn_ne (a := 3) (b := 1) z26
    refine g_iload_n cx dX5_ahead_19 rfl ?_
    refine g_iconst cx dX5_ahead_20 kc_i2 ?_
    refine g_icmp_ne (tgt := 43) cx dX5_ahead_21 (by decide) (fun z27 => ?_) (fun z27 => absurd z27 (by decide +kernel))
    have z27 := gn_ne (a := 3) (b := 2) z27
    refine g_iload_n cx dX5_ahead_43 rfl ?_
    refine g_iconst cx dX5_ahead_44 kc_i1 ?_
    refine g_icmp_ne (tgt := 52) cx dX5_ahead_45 (by decide) (fun z28 => absurd z28 (by decide +kernel)) (fun z28 => ?_)
    have z28 := gn_eq (a := 1) (b := 1) (by omega) (by omega) z28
    refine g_iconst cx dX5_ahead_48 kc_i1 ?_
    refine g_goto (tgt := 62) cx dX5_ahead_49 (by decide) ?_
    exact g_iretE cx dX5_ahead_62 (rfl) (by decide +kernel)
  ·
    refine g_iload_n cx dX5_ahead_0 rfl ?_
    refine g_iload_n cx dX5_ahead_1 rfl ?_
    refine g_callS (ws' := []) (As := [.int (nI 3)]) (rest := [.int (nI 2)]) (n := 1) cx (c_X5_neighbours l E 3 (by omega)) gX5_ahead_X5_neighbours rfl (by decide +kernel) rfl rfl ⟨Nat.le_of_ble_eq_true rfl, Nat.le_of_ble_eq_true rfl⟩ ⟨Nat.zero_le _, Nat.zero_le _⟩ [] (by decide) rfl rfl rfl rfl (Nat.le_of_ble_eq_true rfl) dX5_ahead_2 ?_
    refine g_top (show nI (cntR 3) = nI 5 from by decide +kernel) ?_
    refine g_iconst cx dX5_ahead_5 kc_i1 ?_
    refine g_isub cx dX5_ahead_6 ?_
    refine g_top (show (nI 5) - (nI 1) = nI 4 from by decide +kernel) ?_
    refine g_icmp_ne (tgt := 12) cx dX5_ahead_7 (by decide) (fun z29 => ?_) (fun z29 => absurd z29 (by decide +kernel))
    have z29 := gn_ne (a := 2) (b := 4) z29
    refine g_iload_n cx dX5_ahead_12 rfl ?_
    refine g_iconst cx dX5_ahead_13 kc_i1 ?_
    refine g_icmp_ne (tgt := 19) cx dX5_ahead_14 (by decide) (fun z30 => ?_) (fun z30 => absurd z30 (by decide +kernel))
    have z30 := gn_ne (a := 3) (b := 1) z30
    refine g_iload_n cx dX5_ahead_19 rfl ?_
    refine g_iconst cx dX5_ahead_20 kc_i2 ?_
    refine g_icmp_ne (tgt := 43) cx dX5_ahead_21 (by decide) (fun z31 => ?_) (fun z31 => absurd z31 (by decide +kernel))
    have z31 := gn_ne (a := 3) (b := 2) z31
    refine g_iload_n cx dX5_ahead_43 rfl ?_
    refine g_iconst cx dX5_ahead_44 kc_i1 ?_
    refine g_icmp_ne (tgt := 52) cx dX5_ahead_45 (by decide) (fun z32 => ?_) (fun z32 => absurd z32 (by decide +kernel))
    have z32 := gn_ne (a := 2) (b := 1) z32
    refine g_iload_n cx dX5_ahead_52 rfl ?_
    refine g_iconst cx dX5_ahead_53 kc_i3 ?_
    refine g_icmp_ne (tgt := 61) cx dX5_ahead_54 (by decide) (fun z33 => ?_) (fun z33 => absurd z33 (by decide +kernel))
    have z33 := gn_ne (a := 2) (b := 3) z33
    refine g_iconst cx dX5_ahead_61 kc_i0 ?_
    exact g_iretE cx dX5_ahead_62 (rfl) (by decide +kernel)
  ·
    refine g_iload_n cx dX5_ahead_0 rfl ?_
    refine g_iload_n cx dX5_ahead_1 rfl ?_
    refine g_callS (ws' := []) (As := [.int (nI 3)]) (rest := [.int (nI 3)]) (n := 1) cx (c_X5_neighbours l E 3 (by omega)) gX5_ahead_X5_neighbours rfl (by decide +kernel) rfl rfl ⟨Nat.le_of_ble_eq_true rfl, Nat.le_of_ble_eq_true rfl⟩ ⟨Nat.zero_le _, Nat.zero_le _⟩ [] (by decide) rfl rfl rfl rfl (Nat.le_of_ble_eq_true rfl) dX5_ahead_2 ?_
    refine g_top (show nI (cntR 3) = nI 5 from by decide +kernel) ?_
    refine g_iconst cx dX5_ahead_5 kc_i1 ?_
    refine g_isub cx dX5_ahead_6 ?_
    refine g_top (show (nI 5) - (nI 1) = nI 4 from by decide +kernel) ?_
    refine g_icmp_ne (tgt := 12) cx dX5_ahead_7 (by decide) (fun z34 => ?_) (fun z34 => absurd z34 (by decide +kernel))
    have z34 := gn_ne (a := 3) (b := 4) z34
    refine g_iload_n cx dX5_ahead_12 rfl ?_
    refine g_iconst cx dX5_ahead_13 kc_i1 ?_
    refine g_icmp_ne (tgt := 19) cx dX5_ahead_14 (by decide) (fun z35 => ?_) (fun z35 => absurd z35 (by decide +kernel))
    have z35 := gn_ne (a := 3) (b := 1) z35
    refine g_iload_n cx dX5_ahead_19 rfl ?_
    refine g_iconst cx dX5_ahead_20 kc_i2 ?_
    refine g_icmp_ne (tgt := 43) cx dX5_ahead_21 (by decide) (fun z36 => ?_) (fun z36 => absurd z36 (by decide +kernel))
    have z36 := gn_ne (a := 3) (b := 2) z36
    refine g_iload_n cx dX5_ahead_43 rfl ?_
    refine g_iconst cx dX5_ahead_44 kc_i1 ?_
    refine g_icmp_ne (tgt := 52) cx dX5_ahead_45 (by decide) (fun z37 => ?_) (fun z37 => absurd z37 (by decide +kernel))
    have z37 := gn_ne (a := 3) (b := 1) z37
    refine g_iload_n cx dX5_ahead_52 rfl ?_
    refine g_iconst cx dX5_ahead_53 kc_i3 ?_
    refine g_icmp_ne (tgt := 61) cx dX5_ahead_54 (by decide) (fun z38 => absurd z38 (by decide +kernel)) (fun z38 => ?_)
    have z38 := gn_eq (a := 3) (b := 3) (by omega) (by omega) z38
    refine g_iconst cx dX5_ahead_57 kc_i2 ?_
    refine g_goto (tgt := 62) cx dX5_ahead_58 (by decide) ?_
    exact g_iretE cx dX5_ahead_62 (rfl) (by decide +kernel)
  ·
    refine g_iload_n cx dX5_ahead_0 rfl ?_
    refine g_iload_n cx dX5_ahead_1 rfl ?_
    refine g_callS (ws' := []) (As := [.int (nI 3)]) (rest := [.int (nI 4)]) (n := 1) cx (c_X5_neighbours l E 3 (by omega)) gX5_ahead_X5_neighbours rfl (by decide +kernel) rfl rfl ⟨Nat.le_of_ble_eq_true rfl, Nat.le_of_ble_eq_true rfl⟩ ⟨Nat.zero_le _, Nat.zero_le _⟩ [] (by decide) rfl rfl rfl rfl (Nat.le_of_ble_eq_true rfl) dX5_ahead_2 ?_
    refine g_top (show nI (cntR 3) = nI 5 from by decide +kernel) ?_
    refine g_iconst cx dX5_ahead_5 kc_i1 ?_
    refine g_isub cx dX5_ahead_6 ?_
    refine g_top (show (nI 5) - (nI 1) = nI 4 from by decide +kernel) ?_
    refine g_icmp_ne (tgt := 12) cx dX5_ahead_7 (by decide) (fun z39 => absurd z39 (by decide +kernel)) (fun z39 => ?_)
    have z39 := gn_eq (a := 4) (b := 4) (by omega) (by omega) z39
    refine g_iconst cx dX5_ahead_10 kc_i1 ?_
    exact g_iretE cx dX5_ahead_11 (rfl) (by decide +kernel)
set_option maxRecDepth 100000 in
set_option maxHeartbeats 4000000 in
theorem c_X5_weight (l : Launch) (E : gEnv) (r : Nat) (k : Nat) (hr : r < 4) (hk : k < cntR r - 1) : gM l yX5_weight wsX5_weight ({ frames := 0, cells := 0, slots := 0, locals := 0 } : Room) E [.int (nI r), .int (nI k)] [] [] (some (.int (zW (nF r + k)))) := by
  refine gM.ofG (cc := cX5_weight) (nL := 2) (ret := (some .int)) (own := RX5) [(0, .int (nI r)), (1, .int (nI k))] (by decide) rfl rfl (Nat.le_of_ble_eq_true rfl) rfl rfl ?_
  intro pX eX sX mX bX tX cX A cx
  rcases rk_cases1 hr hk with ⟨rfl, rfl⟩ | ⟨rfl, rfl⟩ | ⟨rfl, rfl⟩ | ⟨rfl, rfl⟩ | ⟨rfl, rfl⟩ | ⟨rfl, rfl⟩ | ⟨rfl, rfl⟩ | ⟨rfl, rfl⟩
  ·
    refine g_iload_n cx dX5_weight_0 rfl ?_
    refine g_iconst cx dX5_weight_1 kc_i1 ?_
    refine g_icmp_ne (tgt := 8) cx dX5_weight_2 (by decide) (fun z1 => absurd z1 (by decide +kernel)) (fun z1 => ?_)
    have z1 := gn_eq (a := 1) (b := 1) (by omega) (by omega) z1
    refine g_bipush cx dX5_weight_5 kc_b8 ?_
    exact g_iretE cx dX5_weight_7 (rfl) (by decide +kernel)
  ·
    refine g_iload_n cx dX5_weight_0 rfl ?_
    refine g_iconst cx dX5_weight_1 kc_i1 ?_
    refine g_icmp_ne (tgt := 8) cx dX5_weight_2 (by decide) (fun z2 => ?_) (fun z2 => absurd z2 (by decide +kernel))
    have z2 := gn_ne (a := 2) (b := 1) z2
    refine g_iload_n cx dX5_weight_8 rfl ?_
    refine g_iconst cx dX5_weight_9 kc_i2 ?_
    refine g_icmp_ne (tgt := 32) cx dX5_weight_10 (by decide) (fun z3 => absurd z3 (by decide +kernel)) (fun z3 => ?_)
    have z3 := gn_eq (a := 2) (b := 2) (by omega) (by omega) z3
    refine g_iload_n cx dX5_weight_13 rfl ?_
    refine g_if_ne (tgt := 21) cx dX5_weight_14 (by decide) (fun z4 => absurd z4 (by decide +kernel)) (fun z4 => ?_)
    have z4 := gn_eq0 (by omega) z4
    refine g_iconst cx dX5_weight_17 kc_i1 ?_
    refine g_goto (tgt := 31) cx dX5_weight_18 (by decide) ?_
    exact g_iretE cx dX5_weight_31 (rfl) (by decide +kernel)
  ·
    refine g_iload_n cx dX5_weight_0 rfl ?_
    refine g_iconst cx dX5_weight_1 kc_i1 ?_
    refine g_icmp_ne (tgt := 8) cx dX5_weight_2 (by decide) (fun z5 => ?_) (fun z5 => absurd z5 (by decide +kernel))
    have z5 := gn_ne (a := 2) (b := 1) z5
    refine g_iload_n cx dX5_weight_8 rfl ?_
    refine g_iconst cx dX5_weight_9 kc_i2 ?_
    refine g_icmp_ne (tgt := 32) cx dX5_weight_10 (by decide) (fun z6 => absurd z6 (by decide +kernel)) (fun z6 => ?_)
    have z6 := gn_eq (a := 2) (b := 2) (by omega) (by omega) z6
    refine g_iload_n cx dX5_weight_13 rfl ?_
    refine g_if_ne (tgt := 21) cx dX5_weight_14 (by decide) (fun z7 => ?_) (fun z7 => absurd z7 (by decide +kernel))
    have z7 := gn_ne0 z7
    refine g_iload_n cx dX5_weight_21 rfl ?_
    refine g_iconst cx dX5_weight_22 kc_i1 ?_
    refine g_icmp_ne (tgt := 30) cx dX5_weight_23 (by decide) (fun z8 => absurd z8 (by decide +kernel)) (fun z8 => ?_)
    have z8 := gn_eq (a := 1) (b := 1) (by omega) (by omega) z8
    refine g_iconst cx dX5_weight_26 kc_i5 ?_
    refine g_goto (tgt := 31) cx dX5_weight_27 (by decide) ?_
    exact g_iretE cx dX5_weight_31 (rfl) (by decide +kernel)
  ·
    refine g_iload_n cx dX5_weight_0 rfl ?_
    refine g_iconst cx dX5_weight_1 kc_i1 ?_
    refine g_icmp_ne (tgt := 8) cx dX5_weight_2 (by decide) (fun z9 => ?_) (fun z9 => absurd z9 (by decide +kernel))
    have z9 := gn_ne (a := 2) (b := 1) z9
    refine g_iload_n cx dX5_weight_8 rfl ?_
    refine g_iconst cx dX5_weight_9 kc_i2 ?_
    refine g_icmp_ne (tgt := 32) cx dX5_weight_10 (by decide) (fun z10 => absurd z10 (by decide +kernel)) (fun z10 => ?_)
    have z10 := gn_eq (a := 2) (b := 2) (by omega) (by omega) z10
    refine g_iload_n cx dX5_weight_13 rfl ?_
    refine g_if_ne (tgt := 21) cx dX5_weight_14 (by decide) (fun z11 => ?_) (fun z11 => absurd z11 (by decide +kernel))
    have z11 := gn_ne0 z11
    refine g_iload_n cx dX5_weight_21 rfl ?_
    refine g_iconst cx dX5_weight_22 kc_i1 ?_
    refine g_icmp_ne (tgt := 30) cx dX5_weight_23 (by decide) (fun z12 => ?_) (fun z12 => absurd z12 (by decide +kernel))
    have z12 := gn_ne (a := 2) (b := 1) z12
    refine g_iconst cx dX5_weight_30 kc_i3 ?_
    exact g_iretE cx dX5_weight_31 (rfl) (by decide +kernel)
  ·
    refine g_iload_n cx dX5_weight_0 rfl ?_
    refine g_iconst cx dX5_weight_1 kc_i1 ?_
    refine g_icmp_ne (tgt := 8) cx dX5_weight_2 (by decide) (fun z13 => ?_) (fun z13 => absurd z13 (by decide +kernel))
    have z13 := gn_ne (a := 3) (b := 1) z13
    refine g_iload_n cx dX5_weight_8 rfl ?_
    refine g_iconst cx dX5_weight_9 kc_i2 ?_
    refine g_icmp_ne (tgt := 32) cx dX5_weight_10 (by decide) (fun z14 => ?_) (fun z14 => absurd z14 (by decide +kernel))
    have z14 := gn_ne (a := 3) (b := 2) z14
    refine g_iload_n cx dX5_weight_32 rfl ?_
    refine g_iconst cx dX5_weight_33 kc_i2 ?_
    refine g_icmp_ne (tgt := 41) cx dX5_weight_34 (by decide) (fun z15 => ?_) (fun z15 => absurd z15 (by decide +kernel))
    have z15 := gn_ne (a := 0) (b := 2) z15
    refine g_iconst cx dX5_weight_41 kc_i2 ?_
    exact g_iretE cx dX5_weight_42 (rfl) (by decide +kernel)
  ·
    refine g_iload_n cx dX5_weight_0 rfl ?_
    refine g_iconst cx dX5_weight_1 kc_i1 ?_
    refine g_icmp_ne (tgt := 8) cx dX5_weight_2 (by decide) (fun z16 => ?_) (fun z16 => absurd z16 (by decide +kernel))
    have z16 := gn_ne (a := 3) (b := 1) z16
    refine g_iload_n cx dX5_weight_8 rfl ?_
    refine g_iconst cx dX5_weight_9 kc_i2 ?_
    refine g_icmp_ne (tgt := 32) cx dX5_weight_10 (by decide) (fun z17 => ?_) (fun z17 => absurd z17 (by decide +kernel))
    have z17 := gn_ne (a := 3) (b := 2) z17
    refine g_iload_n cx dX5_weight_32 rfl ?_
    refine g_iconst cx dX5_weight_33 kc_i2 ?_
    refine g_icmp_ne (tgt := 41) cx dX5_weight_34 (by decide) (fun z18 => ?_) (fun z18 => absurd z18 (by decide +kernel))
    have z18 := gn_ne (a := 1) (b := 2) z18
    refine g_iconst cx dX5_weight_41 kc_i2 ?_
    exact g_iretE cx dX5_weight_42 (rfl) (by decide +kernel)
  ·
    refine g_iload_n cx dX5_weight_0 rfl ?_
    refine g_iconst cx dX5_weight_1 kc_i1 ?_
    refine g_icmp_ne (tgt := 8) cx dX5_weight_2 (by decide) (fun z19 => ?_) (fun z19 => absurd z19 (by decide +kernel))
    have z19 := gn_ne (a := 3) (b := 1) z19
    refine g_iload_n cx dX5_weight_8 rfl ?_
    refine g_iconst cx dX5_weight_9 kc_i2 ?_
    refine g_icmp_ne (tgt := 32) cx dX5_weight_10 (by decide) (fun z20 => ?_) (fun z20 => absurd z20 (by decide +kernel))
    have z20 := gn_ne (a := 3) (b := 2) z20
    refine g_iload_n cx dX5_weight_32 rfl ?_
    refine g_iconst cx dX5_weight_33 kc_i2 ?_
    refine g_icmp_ne (tgt := 41) cx dX5_weight_34 (by decide) (fun z21 => absurd z21 (by decide +kernel)) (fun z21 => ?_)
    have z21 := gn_eq (a := 2) (b := 2) (by omega) (by omega) z21
    refine g_iconst cx dX5_weight_37 kc_i4 ?_
    refine g_goto (tgt := 42) cx dX5_weight_38 (by decide) ?_
    exact g_iretE cx dX5_weight_42 (rfl) (by decide +kernel)
  ·
    refine g_iload_n cx dX5_weight_0 rfl ?_
    refine g_iconst cx dX5_weight_1 kc_i1 ?_
    refine g_icmp_ne (tgt := 8) cx dX5_weight_2 (by decide) (fun z22 => ?_) (fun z22 => absurd z22 (by decide +kernel))
    have z22 := gn_ne (a := 3) (b := 1) z22
    refine g_iload_n cx dX5_weight_8 rfl ?_
    refine g_iconst cx dX5_weight_9 kc_i2 ?_
    refine g_icmp_ne (tgt := 32) cx dX5_weight_10 (by decide) (fun z23 => ?_) (fun z23 => absurd z23 (by decide +kernel))
    have z23 := gn_ne (a := 3) (b := 2) z23
    refine g_iload_n cx dX5_weight_32 rfl ?_
    refine g_iconst cx dX5_weight_33 kc_i2 ?_
    refine g_icmp_ne (tgt := 41) cx dX5_weight_34 (by decide) (fun z24 => ?_) (fun z24 => absurd z24 (by decide +kernel))
    have z24 := gn_ne (a := 3) (b := 2) z24
    refine g_iconst cx dX5_weight_41 kc_i2 ?_
    exact g_iretE cx dX5_weight_42 (rfl) (by decide +kernel)
set_option maxRecDepth 100000 in
set_option maxHeartbeats 4000000 in
theorem c_X5_part (l : Launch) (E : gEnv) (r : Nat) (k : Nat) (e : Int32) (hr : r < 4) (hk : k < cntR r) : gM l yX5_part wsX5_part ({ frames := 1, cells := 0, slots := 0, locals := 21 } : Room) E [.int (nI r), .int (nI k), .int e] [] [] (some (.int (sh r (nF r + k) e))) := by
  refine gM.ofG (cc := cX5_part) (nL := 6) (ret := (some .int)) (own := RX5) [(0, .int (nI r)), (1, .int (nI k)), (2, .int e)] (by decide) rfl rfl (Nat.le_of_ble_eq_true rfl) rfl rfl ?_
  intro pX eX sX mX bX tX cX A cx
  have hF := nF_f hr
  have hcR : cntR r = nF (r + 1) - nF r := rfl
  refine g_iload_n cx dX5_part_0 rfl ?_
  refine g_callS (ws' := []) (As := [.int (nI r)]) (rest := []) (n := 1) cx (c_X5_neighbours l E r (by omega)) gX5_part_X5_neighbours rfl (by decide +kernel) rfl rfl ⟨Nat.le_of_ble_eq_true rfl, Nat.le_of_ble_eq_true rfl⟩ ⟨Nat.zero_le _, Nat.zero_le _⟩ [] (by decide) rfl rfl rfl rfl (Nat.le_of_ble_eq_true rfl) dX5_part_1 ?_
  refine g_iconst cx dX5_part_4 kc_i1 ?_
  refine g_isub cx dX5_part_5 ?_
  refine g_top (pk_sub (a := cntR r) (b := 1) (by omega)) ?_
  refine g_istore_n (lv' := [(3, .int (nI ((cntR r) - 1))), (0, .int (nI r)), (1, .int (nI k)), (2, .int e)]) cx dX5_part_6 rfl (by decide) rfl ?_
  refine g_iload_n cx dX5_part_7 rfl ?_
  refine g_iload_n cx dX5_part_8 rfl ?_
  refine g_icmp_ge (tgt := 23) cx dX5_part_9 (by decide) (fun z1 => ?_) (fun z1 => ?_)
  ·
    have z1 := gn_le (a := (cntR r) - 1) (b := k) (by omega) (by omega) z1
    refine g_iload_n cx dX5_part_23 rfl ?_
    refine g_istore (lv' := [(4, .int e), (3, .int (nI ((cntR r) - 1))), (0, .int (nI r)), (1, .int (nI k)), (2, .int e)]) cx dX5_part_24 (by decide) rfl ?_
    refine g_iconst cx dX5_part_26 kc_i0 ?_
    refine g_istore (lv' := [(5, .int (nI 0)), (4, .int e), (3, .int (nI ((cntR r) - 1))), (0, .int (nI r)), (1, .int (nI k)), (2, .int e)]) cx dX5_part_27 (by decide) rfl ?_
    have L29 : ∀ (n_ : Nat) (j : Nat) (x : Int32), cntR r - 1 - j < n_ → x = lft e (nF r) j → j ≤ cntR r - 1 → gG pX l eX ({ frames := 1, cells := 0, slots := 0, locals := 21 } : Room) sX mX ([.int (nI r), .int (nI k), .int e] : List Value).toArray bX tX cX 6 E A (MQ bX (gQ E [] (some (.int (sh r (nF r + k) e))) A) ([.int (nI r), .int (nI k), .int e] : List Value).toArray sX 0 0 A) 0 0 [] [(0, .int (nI r)), (1, .int (nI k)), (2, .int e), (3, .int (nI (cntR r - 1))), (4, .int x), (5, .int (nI j))] [] 29 := by
      intro n_
      induction n_ with
      | zero => intro j x hm_; exact absurd hm_ (Nat.not_lt_zero _)
      | succ n_ ih_L29 =>
        intro j x hm_ e_x hj
        subst e_x
        refine g_iload cx dX5_part_29 rfl ?_
        refine g_iload_n cx dX5_part_31 rfl ?_
        refine g_icmp_ge (tgt := 57) cx dX5_part_32 (by decide) (fun z2 => ?_) (fun z2 => ?_)
        ·
          have z2 := gn_le (a := cntR r - 1) (b := j) (by omega) (by omega) z2
          refine g_iload cx dX5_part_57 rfl ?_
          exact g_iretE cx dX5_part_59 (rfl) (by unfold sh; rw [if_neg (by omega), show nF (r + 1) - 1 - nF r = j from by omega])
        ·
          have z2 := gn_nle (a := cntR r - 1) (b := j) (by omega) (by omega) z2
          refine g_iload cx dX5_part_35 rfl ?_
          refine g_iload_n cx dX5_part_37 rfl ?_
          refine g_iload_n cx dX5_part_38 rfl ?_
          refine g_iload cx dX5_part_39 rfl ?_
          refine g_callS (ws' := []) (As := [.int (nI r), .int (nI j)]) (rest := [.int e, .int (lft e (nF r) j)]) (n := 2) cx (c_X5_weight l E r j (by omega) (by omega)) gX5_part_X5_weight rfl (by decide +kernel) rfl rfl ⟨Nat.le_of_ble_eq_true rfl, Nat.le_of_ble_eq_true rfl⟩ ⟨Nat.zero_le _, Nat.zero_le _⟩ [] (by decide) rfl rfl rfl rfl (Nat.le_of_ble_eq_true rfl) dX5_part_41 ?_
          refine g_imul cx dX5_part_44 ?_
          refine g_bipush cx dX5_part_45 kc_b16 ?_
          refine g_idiv cx dX5_part_47 (by decide) ?_
          refine g_isub cx dX5_part_48 ?_
          refine g_istore (lv' := [(4, .int ((lft e (nF r) j) - ((e * (zW (nF r + j))) / (nI 16)))), (0, .int (nI r)), (1, .int (nI k)), (2, .int e), (3, .int (nI (cntR r - 1))), (5, .int (nI j))]) cx dX5_part_49 (by decide) rfl ?_
          refine g_iinc (lv' := [(5, .int (nI (j + 1))), (4, .int ((lft e (nF r) j) - ((e * (zW (nF r + j))) / (nI 16)))), (0, .int (nI r)), (1, .int (nI k)), (2, .int e), (3, .int (nI (cntR r - 1)))]) (k := 5) cx dX5_part_51 rfl (gn_inc1 j) (by decide) rfl ?_
          refine g_goto (tgt := 29) cx dX5_part_54 (by decide) ?_
          refine g_lv [2, 3, 4, 5, 1, 0] rfl ?_
          exact ih_L29 (j + 1) ((lft e (nF r) j) - ((e * (zW (nF r + j))) / (nI 16))) (by omega) rfl (by omega)
    refine g_lv [3, 4, 5, 2, 1, 0] rfl ?_
    exact L29 (cntR r - 1 - 0 + 1) 0 e (by omega) rfl (by omega)
  ·
    have z1 := gn_nle (a := (cntR r) - 1) (b := k) (by omega) (by omega) z1
    refine g_iload_n cx dX5_part_12 rfl ?_
    refine g_iload_n cx dX5_part_13 rfl ?_
    refine g_iload_n cx dX5_part_14 rfl ?_
    refine g_callS (ws' := []) (As := [.int (nI r), .int (nI k)]) (rest := [.int e]) (n := 2) cx (c_X5_weight l E r k (by omega) (by omega)) gX5_part_X5_weight rfl (by decide +kernel) rfl rfl ⟨Nat.le_of_ble_eq_true rfl, Nat.le_of_ble_eq_true rfl⟩ ⟨Nat.zero_le _, Nat.zero_le _⟩ [] (by decide) rfl rfl rfl rfl (Nat.le_of_ble_eq_true rfl) dX5_part_15 ?_
    refine g_imul cx dX5_part_18 ?_
    refine g_bipush cx dX5_part_19 kc_b16 ?_
    refine g_idiv cx dX5_part_21 (by decide) ?_
    exact g_iretE cx dX5_part_22 (rfl) ((if_pos (by omega)).symm)
set_option maxRecDepth 100000 in
set_option maxHeartbeats 4000000 in
theorem c_X5_ways (l : Launch) (E : gEnv) (h : Nat) (an : Nat) (ap_ : Nat) (asl : Nat) (ah : Nat) (ax : Nat) (atd : Nat) (av : Nat) (ae : Nat) (nw : Nat → Int32) (ps : Nat → Int32) (sl : Nat → Int32) (hsl : Nat → Int32) (td : Nat → Int32) (va : Nat → Int32) (er : Nat → Int32) (T : Nat → Nat) (hN : Nat) (tyN : Nat) (at_ : Nat) (tlN : Nat) (th : Int32) (go : Int32) (w : Bool) (row : Nat) (hw : nw 66 = gB w) (hrow : row < 2 ^ 31) : gM l yX5_ways wsX5_ways ({ frames := 0, cells := 0, slots := 0, locals := 0 } : Room) E [.ref h, .int (nI row)] [(h, .inr (5, [.ref an, .ref ap_, .ref asl, .ref ah, .int (nI hN), .ref ax, .int (nI tyN), .int th, .int (nI at_), .ref atd, .int (nI tlN), .ref av, .ref ae, .int go])), (an, .inl (E.2.1 0, 67, .inl nw)), (ap_, .inl (E.2.1 0, 402, .inl ps)), (asl, .inl (E.2.1 0, 134, .inl sl)), (ah, .inl (E.2.1 0, 2, .inl hsl)), (ax, .inl (E.2.1 0, 80, .inl (fun j => nI (T j)))), (atd, .inl (E.2.1 0, 123, .inl td)), (av, .inl (E.2.1 0, 64, .inl va)), (ae, .inl (E.2.1 0, 64, .inl er))] [(h, .inr (5, [.ref an, .ref ap_, .ref asl, .ref ah, .int (nI hN), .ref ax, .int (nI tyN), .int th, .int (nI at_), .ref atd, .int (nI tlN), .ref av, .ref ae, .int go])), (an, .inl (E.2.1 0, 67, .inl nw)), (ap_, .inl (E.2.1 0, 402, .inl ps)), (asl, .inl (E.2.1 0, 134, .inl sl)), (ah, .inl (E.2.1 0, 2, .inl hsl)), (ax, .inl (E.2.1 0, 80, .inl (fun j => nI (T j)))), (atd, .inl (E.2.1 0, 123, .inl td)), (av, .inl (E.2.1 0, 64, .inl va)), (ae, .inl (E.2.1 0, 64, .inl er))] (some (.int (dirI w row))) := by
  refine gM.ofG (cc := cX5_ways) (nL := 2) (ret := (some .int)) (own := RX5) [(0, .ref h), (1, .int (nI row))] (by decide) rfl rfl (Nat.le_of_ble_eq_true rfl) rfl rfl ?_
  intro pX eX sX mX bX tX cX A cx
  have hiX5 : ∀ w ∈ u_ws RX5 TX5 14, w ∈ wsX5_ways := by decide +kernel
  refine g_aload_n cx dX5_ways_0 rfl ?_
  refine g_get (C := RX5) (T := TX5) (N := 14) (ci := 5) cx hiX5 0 0 (by decide) rfl (by decide +kernel) rfl rfl dX5_ways_1 ?_
  refine g_bipush cx dX5_ways_4 kc_b66 ?_
  refine g_iald cx 1 rfl rfl (vp_in_nI (by omega) (by omega)) (congrArg _ (nI_clamp (by omega))) dX5_ways_6 ?_
  refine g_top (show (nw 66) = gB w from hw) ?_
  refine g_iconst cx dX5_ways_7 kc_i1 ?_
  refine g_icmp_ne (tgt := 22) cx dX5_ways_8 (by decide) (fun z1 => ?_) (fun z1 => ?_)
  ·
    have z1 := gB_ne1 z1
    refine g_iconst cx dX5_ways_22 kc_i1 ?_
    exact g_iretE cx dX5_ways_23 (rfl) (by unfold dirI; first | exact (if_pos ⟨by assumption, by assumption⟩).symm | exact (if_neg (fun q => by first | exact absurd q.2 (by assumption) | (have q1 := q.1; simp_all))).symm)
  ·
    have z1 := gB_eq1 z1
    refine g_iload_n cx dX5_ways_11 rfl ?_
    refine g_iconst cx dX5_ways_12 kc_i2 ?_
    refine g_irem cx dX5_ways_13 (by decide) ?_
    refine g_top (pk_rem (a := row) (d := 2) (by omega) (by omega) (by omega)) ?_
    refine g_iconst cx dX5_ways_14 kc_i1 ?_
    refine g_icmp_ne (tgt := 22) cx dX5_ways_15 (by decide) (fun z2 => ?_) (fun z2 => ?_)
    ·
      have z2 := gn_ne (a := row % 2) (b := 1) z2
      refine g_iconst cx dX5_ways_22 kc_i1 ?_
      exact g_iretE cx dX5_ways_23 (rfl) (by unfold dirI; first | exact (if_pos ⟨by assumption, by assumption⟩).symm | exact (if_neg (fun q => by first | exact absurd q.2 (by assumption) | (have q1 := q.1; simp_all))).symm)
    ·
      have z2 := gn_eq (a := row % 2) (b := 1) (by omega) (by omega) z2
      refine g_iconst cx dX5_ways_18 kc_im1 ?_
      refine g_goto (tgt := 23) cx dX5_ways_19 (by decide) ?_
      exact g_iretE cx dX5_ways_23 (rfl) (by unfold dirI; first | exact (if_pos ⟨by assumption, by assumption⟩).symm | exact (if_neg (fun q => by first | exact absurd q.2 (by assumption) | (have q1 := q.1; simp_all))).symm)
set_option maxRecDepth 100000 in
set_option maxHeartbeats 4000000 in
theorem c_X5_neighbour (l : Launch) (E : gEnv) (h : Nat) (an : Nat) (ap_ : Nat) (asl : Nat) (ah : Nat) (ax : Nat) (atd : Nat) (av : Nat) (ae : Nat) (nw : Nat → Int32) (ps : Nat → Int32) (sl : Nat → Int32) (hsl : Nat → Int32) (td : Nat → Int32) (va : Nat → Int32) (er : Nat → Int32) (T : Nat → Nat) (hN : Nat) (tyN : Nat) (at_ : Nat) (tlN : Nat) (th : Int32) (go : Int32) (w : Bool) (r : Nat) (k : Nat) (c : Nat) (hw : nw 66 = gB w) (hr : r < 4) (hk : k < cntR r) (hc : c < 64) : gM l yX5_neighbour wsX5_neighbour ({ frames := 2, cells := 0, slots := 0, locals := 41 } : Room) E [.ref h, .int (nI r), .int (nI k), .int (nI c)] [(h, .inr (5, [.ref an, .ref ap_, .ref asl, .ref ah, .int (nI hN), .ref ax, .int (nI tyN), .int th, .int (nI at_), .ref atd, .int (nI tlN), .ref av, .ref ae, .int go])), (an, .inl (E.2.1 0, 67, .inl nw)), (ap_, .inl (E.2.1 0, 402, .inl ps)), (asl, .inl (E.2.1 0, 134, .inl sl)), (ah, .inl (E.2.1 0, 2, .inl hsl)), (ax, .inl (E.2.1 0, 80, .inl (fun j => nI (T j)))), (atd, .inl (E.2.1 0, 123, .inl td)), (av, .inl (E.2.1 0, 64, .inl va)), (ae, .inl (E.2.1 0, 64, .inl er))] [(h, .inr (5, [.ref an, .ref ap_, .ref asl, .ref ah, .int (nI hN), .ref ax, .int (nI tyN), .int th, .int (nI at_), .ref atd, .int (nI tlN), .ref av, .ref ae, .int go])), (an, .inl (E.2.1 0, 67, .inl nw)), (ap_, .inl (E.2.1 0, 402, .inl ps)), (asl, .inl (E.2.1 0, 134, .inl sl)), (ah, .inl (E.2.1 0, 2, .inl hsl)), (ax, .inl (E.2.1 0, 80, .inl (fun j => nI (T j)))), (atd, .inl (E.2.1 0, 123, .inl td)), (av, .inl (E.2.1 0, 64, .inl va)), (ae, .inl (E.2.1 0, 64, .inl er))] (some (.int (tI (dirI w (c / 8)) (nF r + k) c))) := by
  refine gM.ofG (cc := cX5_neighbour) (nL := 6) (ret := (some .int)) (own := RX5) [(0, .ref h), (1, .int (nI r)), (2, .int (nI k)), (3, .int (nI c))] (by decide) rfl rfl (Nat.le_of_ble_eq_true rfl) rfl rfl ?_
  intro pX eX sX mX bX tX cX A cx
  refine g_iload_n cx dX5_neighbour_0 rfl ?_
  refine g_bipush cx dX5_neighbour_1 kc_b8 ?_
  refine g_idiv cx dX5_neighbour_3 (by decide) ?_
  refine g_top (pk_div (a := c) (d := 8) (by omega) (by omega) (by omega)) ?_
  refine g_iload_n cx dX5_neighbour_4 rfl ?_
  refine g_iload_n cx dX5_neighbour_5 rfl ?_
  refine g_callS (ws' := [(h, .inr (5, [.ref an, .ref ap_, .ref asl, .ref ah, .int (nI hN), .ref ax, .int (nI tyN), .int th, .int (nI at_), .ref atd, .int (nI tlN), .ref av, .ref ae, .int go])), (an, .inl (E.2.1 0, 67, .inl nw)), (ap_, .inl (E.2.1 0, 402, .inl ps)), (asl, .inl (E.2.1 0, 134, .inl sl)), (ah, .inl (E.2.1 0, 2, .inl hsl)), (ax, .inl (E.2.1 0, 80, .inl (fun j => nI (T j)))), (atd, .inl (E.2.1 0, 123, .inl td)), (av, .inl (E.2.1 0, 64, .inl va)), (ae, .inl (E.2.1 0, 64, .inl er))]) (As := [.int (nI r), .int (nI k)]) (rest := [.int (nI (c / 8))]) (n := 2) cx (c_X5_down l E r k (by omega) (by omega)) gX5_neighbour_X5_down rfl (by decide +kernel) rfl rfl ⟨Nat.le_of_ble_eq_true rfl, Nat.le_of_ble_eq_true rfl⟩ ⟨Nat.zero_le _, Nat.zero_le _⟩ [] (by decide) rfl rfl rfl rfl (Nat.le_of_ble_eq_true rfl) dX5_neighbour_6 ?_
  refine g_iadd cx dX5_neighbour_9 ?_
  refine g_top (nI_add (c / 8) (nD (nF r + k))) ?_
  refine g_istore (lv' := [(4, .int (nI ((c / 8) + (nD (nF r + k))))), (0, .ref h), (1, .int (nI r)), (2, .int (nI k)), (3, .int (nI c))]) cx dX5_neighbour_10 (by decide) rfl ?_
  refine g_iload_n cx dX5_neighbour_12 rfl ?_
  refine g_bipush cx dX5_neighbour_13 kc_b8 ?_
  refine g_irem cx dX5_neighbour_15 (by decide) ?_
  refine g_top (pk_rem (a := c) (d := 8) (by omega) (by omega) (by omega)) ?_
  refine g_aload_n cx dX5_neighbour_16 rfl ?_
  refine g_iload_n cx dX5_neighbour_17 rfl ?_
  refine g_bipush cx dX5_neighbour_18 kc_b8 ?_
  refine g_idiv cx dX5_neighbour_20 (by decide) ?_
  refine g_top (pk_div (a := c) (d := 8) (by omega) (by omega) (by omega)) ?_
  refine g_callV (ws' := [(h, .inr (5, [.ref an, .ref ap_, .ref asl, .ref ah, .int (nI hN), .ref ax, .int (nI tyN), .int th, .int (nI at_), .ref atd, .int (nI tlN), .ref av, .ref ae, .int go])), (an, .inl (E.2.1 0, 67, .inl nw)), (ap_, .inl (E.2.1 0, 402, .inl ps)), (asl, .inl (E.2.1 0, 134, .inl sl)), (ah, .inl (E.2.1 0, 2, .inl hsl)), (ax, .inl (E.2.1 0, 80, .inl (fun j => nI (T j)))), (atd, .inl (E.2.1 0, 123, .inl td)), (av, .inl (E.2.1 0, 64, .inl va)), (ae, .inl (E.2.1 0, 64, .inl er))]) (As := [.int (nI (c / 8))]) (rest := [.int (nI (c % 8))]) (n := 1) (T := TX5) (N := 14) (ci := 5) cx (c_X5_ways l E h an ap_ asl ah ax atd av ae nw ps sl hsl td va er T hN tyN at_ tlN th go w (c / 8) (by omega) (by omega)) gX5_neighbour_X5_ways rfl (by decide +kernel) rfl rfl ⟨Nat.le_of_ble_eq_true rfl, Nat.le_of_ble_eq_true rfl⟩ ⟨Nat.zero_le _, Nat.zero_le _⟩ [0, 1, 2, 3, 4, 5, 6, 7, 8] 0 rfl rfl (by decide) rfl rfl rfl rfl (Nat.le_of_ble_eq_true rfl) dX5_neighbour_21 ?_
  refine g_iload_n cx dX5_neighbour_24 rfl ?_
  refine g_iload_n cx dX5_neighbour_25 rfl ?_
  refine g_callS (ws' := [(h, .inr (5, [.ref an, .ref ap_, .ref asl, .ref ah, .int (nI hN), .ref ax, .int (nI tyN), .int th, .int (nI at_), .ref atd, .int (nI tlN), .ref av, .ref ae, .int go])), (an, .inl (E.2.1 0, 67, .inl nw)), (ap_, .inl (E.2.1 0, 402, .inl ps)), (asl, .inl (E.2.1 0, 134, .inl sl)), (ah, .inl (E.2.1 0, 2, .inl hsl)), (ax, .inl (E.2.1 0, 80, .inl (fun j => nI (T j)))), (atd, .inl (E.2.1 0, 123, .inl td)), (av, .inl (E.2.1 0, 64, .inl va)), (ae, .inl (E.2.1 0, 64, .inl er))]) (As := [.int (nI r), .int (nI k)]) (rest := [.int (dirI w (c / 8)), .int (nI (c % 8))]) (n := 2) cx (c_X5_ahead l E r k (by omega) (by omega)) gX5_neighbour_X5_ahead rfl (by decide +kernel) rfl rfl ⟨Nat.le_of_ble_eq_true rfl, Nat.le_of_ble_eq_true rfl⟩ ⟨Nat.zero_le _, Nat.zero_le _⟩ [] (by decide) rfl rfl rfl rfl (Nat.le_of_ble_eq_true rfl) dX5_neighbour_26 ?_
  refine g_imul cx dX5_neighbour_29 ?_
  refine g_iadd cx dX5_neighbour_30 ?_
  refine g_istore (lv' := [(5, .int ((nI (c % 8)) + ((dirI w (c / 8)) * (zA (nF r + k))))), (4, .int (nI ((c / 8) + (nD (nF r + k))))), (0, .ref h), (1, .int (nI r)), (2, .int (nI k)), (3, .int (nI c))]) cx dX5_neighbour_31 (by decide) rfl ?_
  refine g_iload cx dX5_neighbour_33 rfl ?_
  refine g_iconst cx dX5_neighbour_35 kc_i0 ?_
  refine g_bipush cx dX5_neighbour_36 kc_b7 ?_
  refine g_callS (ws' := [(h, .inr (5, [.ref an, .ref ap_, .ref asl, .ref ah, .int (nI hN), .ref ax, .int (nI tyN), .int th, .int (nI at_), .ref atd, .int (nI tlN), .ref av, .ref ae, .int go])), (an, .inl (E.2.1 0, 67, .inl nw)), (ap_, .inl (E.2.1 0, 402, .inl ps)), (asl, .inl (E.2.1 0, 134, .inl sl)), (ah, .inl (E.2.1 0, 2, .inl hsl)), (ax, .inl (E.2.1 0, 80, .inl (fun j => nI (T j)))), (atd, .inl (E.2.1 0, 123, .inl td)), (av, .inl (E.2.1 0, 64, .inl va)), (ae, .inl (E.2.1 0, 64, .inl er))]) (As := [.int (nI ((c / 8) + (nD (nF r + k)))), .int (nI 0), .int (nI 7)]) (rest := []) (n := 3) cx (c_X5_in l E (nI ((c / 8) + (nD (nF r + k)))) 0 7 (by omega) (by omega)) gX5_neighbour_X5_in rfl (by decide +kernel) rfl rfl ⟨Nat.le_of_ble_eq_true rfl, Nat.le_of_ble_eq_true rfl⟩ ⟨Nat.zero_le _, Nat.zero_le _⟩ [] (by decide) rfl rfl rfl rfl (Nat.le_of_ble_eq_true rfl) dX5_neighbour_38 ?_
  refine g_if_eq (tgt := 66) cx dX5_neighbour_41 (by decide) (fun z1 => ?_) (fun z1 => ?_)
  ·
    have z1 := gB_eq0 z1
    refine g_iconst cx dX5_neighbour_66 kc_im1 ?_
    exact g_iretE cx dX5_neighbour_67 (rfl) (by unfold tI cIn; rw [Int32.mul_comm (zA _)]; first | exact (if_pos ⟨by assumption, by assumption⟩).symm | exact (if_neg (fun q => by simp_all)).symm)
  ·
    have z1 := gB_ne0 z1
    refine g_iload cx dX5_neighbour_44 rfl ?_
    refine g_iconst cx dX5_neighbour_46 kc_i0 ?_
    refine g_bipush cx dX5_neighbour_47 kc_b7 ?_
    refine g_callS (ws' := [(h, .inr (5, [.ref an, .ref ap_, .ref asl, .ref ah, .int (nI hN), .ref ax, .int (nI tyN), .int th, .int (nI at_), .ref atd, .int (nI tlN), .ref av, .ref ae, .int go])), (an, .inl (E.2.1 0, 67, .inl nw)), (ap_, .inl (E.2.1 0, 402, .inl ps)), (asl, .inl (E.2.1 0, 134, .inl sl)), (ah, .inl (E.2.1 0, 2, .inl hsl)), (ax, .inl (E.2.1 0, 80, .inl (fun j => nI (T j)))), (atd, .inl (E.2.1 0, 123, .inl td)), (av, .inl (E.2.1 0, 64, .inl va)), (ae, .inl (E.2.1 0, 64, .inl er))]) (As := [.int ((nI (c % 8)) + ((dirI w (c / 8)) * (zA (nF r + k)))), .int (nI 0), .int (nI 7)]) (rest := []) (n := 3) cx (c_X5_in l E ((nI (c % 8)) + ((dirI w (c / 8)) * (zA (nF r + k)))) 0 7 (by omega) (by omega)) gX5_neighbour_X5_in rfl (by decide +kernel) rfl rfl ⟨Nat.le_of_ble_eq_true rfl, Nat.le_of_ble_eq_true rfl⟩ ⟨Nat.zero_le _, Nat.zero_le _⟩ [] (by decide) rfl rfl rfl rfl (Nat.le_of_ble_eq_true rfl) dX5_neighbour_49 ?_
    refine g_if_eq (tgt := 66) cx dX5_neighbour_52 (by decide) (fun z2 => ?_) (fun z2 => ?_)
    ·
      have z2 := gB_eq0 z2
      refine g_iconst cx dX5_neighbour_66 kc_im1 ?_
      exact g_iretE cx dX5_neighbour_67 (rfl) (by unfold tI cIn; rw [Int32.mul_comm (zA _)]; first | exact (if_pos ⟨by assumption, by assumption⟩).symm | exact (if_neg (fun q => by simp_all)).symm)
    ·
      have z2 := gB_ne0 z2
      refine g_bipush cx dX5_neighbour_55 kc_b8 ?_
      refine g_iload cx dX5_neighbour_57 rfl ?_
      refine g_imul cx dX5_neighbour_59 ?_
      refine g_iload cx dX5_neighbour_60 rfl ?_
      refine g_iadd cx dX5_neighbour_62 ?_
      refine g_goto (tgt := 67) cx dX5_neighbour_63 (by decide) ?_
      exact g_iretE cx dX5_neighbour_67 (rfl) (by unfold tI cIn; rw [Int32.mul_comm (zA _)]; first | exact (if_pos ⟨by assumption, by assumption⟩).symm | exact (if_neg (fun q => by simp_all)).symm)
set_option maxRecDepth 100000 in
set_option maxHeartbeats 4000000 in
theorem c_X5_painted (l : Launch) (E : gEnv) (h : Nat) (an : Nat) (ap_ : Nat) (asl : Nat) (ah : Nat) (ax : Nat) (atd : Nat) (av : Nat) (ae : Nat) (nw : Nat → Int32) (ps : Nat → Int32) (sl : Nat → Int32) (hsl : Nat → Int32) (td : Nat → Int32) (va : Nat → Int32) (er : Nat → Int32) (T : Nat → Nat) (hN : Nat) (tyN : Nat) (at_ : Nat) (tlN : Nat) (th : Int32) (go : Int32) (w : Bool) (s9 : Nat) (hw : nw 66 = gB w) (hs : s9 < 64) : gM l yX5_painted wsX5_painted ({ frames := 1, cells := 0, slots := 0, locals := 21 } : Room) E [.ref h, .int (nI s9)] [(h, .inr (5, [.ref an, .ref ap_, .ref asl, .ref ah, .int (nI hN), .ref ax, .int (nI tyN), .int th, .int (nI at_), .ref atd, .int (nI tlN), .ref av, .ref ae, .int go])), (an, .inl (E.2.1 0, 67, .inl nw)), (ap_, .inl (E.2.1 0, 402, .inl ps)), (asl, .inl (E.2.1 0, 134, .inl sl)), (ah, .inl (E.2.1 0, 2, .inl hsl)), (ax, .inl (E.2.1 0, 80, .inl (fun j => nI (T j)))), (atd, .inl (E.2.1 0, 123, .inl td)), (av, .inl (E.2.1 0, 64, .inl va)), (ae, .inl (E.2.1 0, 64, .inl er))] [(h, .inr (5, [.ref an, .ref ap_, .ref asl, .ref ah, .int (nI hN), .ref ax, .int (nI tyN), .int th, .int (nI at_), .ref atd, .int (nI tlN), .ref av, .ref ae, .int go])), (an, .inl (E.2.1 0, 67, .inl nw)), (ap_, .inl (E.2.1 0, 402, .inl ps)), (asl, .inl (E.2.1 0, 134, .inl sl)), (ah, .inl (E.2.1 0, 2, .inl hsl)), (ax, .inl (E.2.1 0, 80, .inl (fun j => nI (T j)))), (atd, .inl (E.2.1 0, 123, .inl td)), (av, .inl (E.2.1 0, 64, .inl va)), (ae, .inl (E.2.1 0, 64, .inl er))] (some (.int (nI (pcl w s9)))) := by
  refine gM.ofG (cc := cX5_painted) (nL := 3) (ret := (some .int)) (own := RX5) [(0, .ref h), (1, .int (nI s9))] (by decide) rfl rfl (Nat.le_of_ble_eq_true rfl) rfl rfl ?_
  intro pX eX sX mX bX tX cX A cx
  refine g_iload_n cx dX5_painted_0 rfl ?_
  refine g_bipush cx dX5_painted_1 kc_b8 ?_
  refine g_idiv cx dX5_painted_3 (by decide) ?_
  refine g_top (pk_div (a := s9) (d := 8) (by omega) (by omega) (by omega)) ?_
  refine g_istore_n (lv' := [(2, .int (nI (s9 / 8))), (0, .ref h), (1, .int (nI s9))]) cx dX5_painted_4 rfl (by decide) rfl ?_
  refine g_aload_n cx dX5_painted_5 rfl ?_
  refine g_iload_n cx dX5_painted_6 rfl ?_
  refine g_callV (ws' := [(h, .inr (5, [.ref an, .ref ap_, .ref asl, .ref ah, .int (nI hN), .ref ax, .int (nI tyN), .int th, .int (nI at_), .ref atd, .int (nI tlN), .ref av, .ref ae, .int go])), (an, .inl (E.2.1 0, 67, .inl nw)), (ap_, .inl (E.2.1 0, 402, .inl ps)), (asl, .inl (E.2.1 0, 134, .inl sl)), (ah, .inl (E.2.1 0, 2, .inl hsl)), (ax, .inl (E.2.1 0, 80, .inl (fun j => nI (T j)))), (atd, .inl (E.2.1 0, 123, .inl td)), (av, .inl (E.2.1 0, 64, .inl va)), (ae, .inl (E.2.1 0, 64, .inl er))]) (As := [.int (nI (s9 / 8))]) (rest := []) (n := 1) (T := TX5) (N := 14) (ci := 5) cx (c_X5_ways l E h an ap_ asl ah ax atd av ae nw ps sl hsl td va er T hN tyN at_ tlN th go w (s9 / 8) (by omega) (by omega)) gX5_painted_X5_ways rfl (by decide +kernel) rfl rfl ⟨Nat.le_of_ble_eq_true rfl, Nat.le_of_ble_eq_true rfl⟩ ⟨Nat.zero_le _, Nat.zero_le _⟩ [0, 1, 2, 3, 4, 5, 6, 7, 8] 0 rfl rfl (by decide) rfl rfl rfl rfl (Nat.le_of_ble_eq_true rfl) dX5_painted_7 ?_
  refine g_iconst cx dX5_painted_10 kc_i1 ?_
  refine g_icmp_ne (tgt := 18) cx dX5_painted_11 (by decide) (fun z1 => ?_) (fun z1 => ?_)
  ·
    refine g_bipush cx dX5_painted_18 kc_b8 ?_
    refine g_iload_n cx dX5_painted_20 rfl ?_
    refine g_imul cx dX5_painted_21 ?_
    refine g_top (pk_mul 8 (s9 / 8)) ?_
    refine g_bipush cx dX5_painted_22 kc_b8 ?_
    refine g_iadd cx dX5_painted_24 ?_
    refine g_top (nI_add (8 * (s9 / 8)) 8) ?_
    refine g_iconst cx dX5_painted_25 kc_i1 ?_
    refine g_isub cx dX5_painted_26 ?_
    refine g_top (pk_sub (a := (8 * (s9 / 8)) + 8) (b := 1) (by omega)) ?_
    refine g_iload_n cx dX5_painted_27 rfl ?_
    refine g_bipush cx dX5_painted_28 kc_b8 ?_
    refine g_irem cx dX5_painted_30 (by decide) ?_
    refine g_top (pk_rem (a := s9) (d := 8) (by omega) (by omega) (by omega)) ?_
    refine g_isub cx dX5_painted_31 ?_
    refine g_top (pk_sub (a := ((8 * (s9 / 8)) + 8) - 1) (b := s9 % 8) (by omega)) ?_
    exact g_iretE cx dX5_painted_32 (rfl) (congrArg nI (by unfold pcl; first | (rw [if_pos (by assumption)]; omega) | (rw [if_neg (by assumption)]; omega)))
  ·
    refine g_iload_n cx dX5_painted_14 rfl ?_
    refine g_goto (tgt := 32) cx dX5_painted_15 (by decide) ?_
    exact g_iretE cx dX5_painted_32 (rfl) (congrArg nI (by unfold pcl; first | (rw [if_pos (by assumption)]; omega) | (rw [if_neg (by assumption)]; omega)))
set_option maxRecDepth 100000 in
set_option maxHeartbeats 4000000 in
theorem c_X5_paints (l : Launch) (E : gEnv) (h : Nat) (an : Nat) (ap_ : Nat) (asl : Nat) (ah : Nat) (ax : Nat) (atd : Nat) (av : Nat) (ae : Nat) (nw : Nat → Int32) (ps : Nat → Int32) (sl : Nat → Int32) (hsl : Nat → Int32) (td : Nat → Int32) (va : Nat → Int32) (er : Nat → Int32) (T : Nat → Nat) (hN : Nat) (tyN : Nat) (at_ : Nat) (tlN : Nat) (th : Int32) (go : Int32) (w : Bool) (r : Nat) (thr : Int32) (hw : nw 66 = gB w) (hr : r < 4) : gM l yX5_paints wsX5_paints ({ frames := 3, cells := 0, slots := 0, locals := 66 } : Room) E [.ref h, .int (nI r), .int thr] [(h, .inr (5, [.ref an, .ref ap_, .ref asl, .ref ah, .int (nI hN), .ref ax, .int (nI tyN), .int th, .int (nI at_), .ref atd, .int (nI tlN), .ref av, .ref ae, .int go])), (an, .inl (E.2.1 0, 67, .inl nw)), (ap_, .inl (E.2.1 0, 402, .inl ps)), (asl, .inl (E.2.1 0, 134, .inl sl)), (ah, .inl (E.2.1 0, 2, .inl hsl)), (ax, .inl (E.2.1 0, 80, .inl (fun j => nI (T j)))), (atd, .inl (E.2.1 0, 123, .inl td)), (av, .inl (E.2.1 0, 64, .inl va)), (ae, .inl (E.2.1 0, 64, .inl er))] [(h, .inr (5, [.ref an, .ref ap_, .ref asl, .ref ah, .int (nI hN), .ref ax, .int (nI tyN), .int th, .int (nI at_), .ref atd, .int (nI tlN), .ref av, .ref ae, .int (pG w r thr nw)])), (an, .inl (E.2.1 0, 67, .inl nw)), (ap_, .inl (E.2.1 0, 402, .inl ps)), (asl, .inl (E.2.1 0, 134, .inl sl)), (ah, .inl (E.2.1 0, 2, .inl hsl)), (ax, .inl (E.2.1 0, 80, .inl (fun j => nI (T j)))), (atd, .inl (E.2.1 0, 123, .inl td)), (av, .inl (E.2.1 0, 64, .inl (pV w r thr nw))), (ae, .inl (E.2.1 0, 64, .inl (pE w r thr nw)))] none := by
  refine gM.ofG (cc := cX5_paints) (nL := 8) (ret := none) (own := RX5) [(0, .ref h), (1, .int (nI r)), (2, .int thr)] (by decide) rfl rfl (Nat.le_of_ble_eq_true rfl) rfl rfl ?_
  intro pX eX sX mX bX tX cX A cx
  have hiX5 : ∀ w ∈ u_ws RX5 TX5 14, w ∈ wsX5_paints := by decide +kernel
  have hF := nF_f hr
  have hcR : cntR r = nF (r + 1) - nF r := rfl
  refine g_aload_n cx dX5_paints_0 rfl ?_
  refine g_iconst cx dX5_paints_1 kc_i0 ?_
  refine g_put (ws' := [(h, .inr (5, [.ref an, .ref ap_, .ref asl, .ref ah, .int (nI hN), .ref ax, .int (nI tyN), .int th, .int (nI at_), .ref atd, .int (nI tlN), .ref av, .ref ae, .int (nI 0)])), (an, .inl (E.2.1 0, 67, .inl nw)), (ap_, .inl (E.2.1 0, 402, .inl ps)), (asl, .inl (E.2.1 0, 134, .inl sl)), (ah, .inl (E.2.1 0, 2, .inl hsl)), (ax, .inl (E.2.1 0, 80, .inl (fun j => nI (T j)))), (atd, .inl (E.2.1 0, 123, .inl td)), (av, .inl (E.2.1 0, 64, .inl va)), (ae, .inl (E.2.1 0, 64, .inl er))]) (C := RX5) (T := TX5) (N := 14) (ci := 5) cx hiX5 tyX5 tyX5_ok nmX5 0 13 (by decide) rfl (by decide +kernel) rfl rfl rfl rfl rfl (Nat.le_of_ble_eq_true rfl) rfl dX5_paints_2 ?_
  refine g_iconst cx dX5_paints_5 kc_i0 ?_
  refine g_istore_n (lv' := [(3, .int (nI 0)), (0, .ref h), (1, .int (nI r)), (2, .int thr)]) cx dX5_paints_6 rfl (by decide) rfl ?_
  have L7 : ∀ (n_ : Nat) (i : Nat) (g : Nat → Int32), 64 - i < n_ → g = va_cpy nw va 0 0 i → i ≤ 64 → gG pX l eX ({ frames := 3, cells := 0, slots := 0, locals := 66 } : Room) sX mX ([.ref h, .int (nI r), .int thr] : List Value).toArray bX tX cX 8 E A (MQ bX (gQ E [(h, .inr (5, [.ref an, .ref ap_, .ref asl, .ref ah, .int (nI hN), .ref ax, .int (nI tyN), .int th, .int (nI at_), .ref atd, .int (nI tlN), .ref av, .ref ae, .int (pG w r thr nw)])), (an, .inl (E.2.1 0, 67, .inl nw)), (ap_, .inl (E.2.1 0, 402, .inl ps)), (asl, .inl (E.2.1 0, 134, .inl sl)), (ah, .inl (E.2.1 0, 2, .inl hsl)), (ax, .inl (E.2.1 0, 80, .inl (fun j => nI (T j)))), (atd, .inl (E.2.1 0, 123, .inl td)), (av, .inl (E.2.1 0, 64, .inl (pV w r thr nw))), (ae, .inl (E.2.1 0, 64, .inl (pE w r thr nw)))] none A) ([.ref h, .int (nI r), .int thr] : List Value).toArray sX 0 0 A) 0 0 [(h, .inr (5, [.ref an, .ref ap_, .ref asl, .ref ah, .int (nI hN), .ref ax, .int (nI tyN), .int th, .int (nI at_), .ref atd, .int (nI tlN), .ref av, .ref ae, .int (nI 0)])), (an, .inl (E.2.1 0, 67, .inl nw)), (ap_, .inl (E.2.1 0, 402, .inl ps)), (asl, .inl (E.2.1 0, 134, .inl sl)), (ah, .inl (E.2.1 0, 2, .inl hsl)), (ax, .inl (E.2.1 0, 80, .inl (fun j => nI (T j)))), (atd, .inl (E.2.1 0, 123, .inl td)), (av, .inl (E.2.1 0, 64, .inl g)), (ae, .inl (E.2.1 0, 64, .inl er))] [(0, .ref h), (1, .int (nI r)), (2, .int thr), (3, .int (nI i))] [] 7 := by
    intro n_
    induction n_ with
    | zero => intro i g hm_; exact absurd hm_ (Nat.not_lt_zero _)
    | succ n_ ih_L7 =>
      intro i g hm_ e_g hi
      subst e_g
      refine g_iload_n cx dX5_paints_7 rfl ?_
      refine g_bipush cx dX5_paints_8 kc_b64 ?_
      refine g_icmp_ge (tgt := 31) cx dX5_paints_10 (by decide) (fun z1 => ?_) (fun z1 => ?_)
      ·
        have z1 := gn_le (a := 64) (b := i) (by omega) (by omega) z1
        obtain rfl : i = 64 := by omega
        refine g_wsP (ws' := [(h, .inr (5, [.ref an, .ref ap_, .ref asl, .ref ah, .int (nI hN), .ref ax, .int (nI tyN), .int th, .int (nI at_), .ref atd, .int (nI tlN), .ref av, .ref ae, .int (nI 0)])), (an, .inl (E.2.1 0, 67, .inl nw)), (ap_, .inl (E.2.1 0, 402, .inl ps)), (asl, .inl (E.2.1 0, 134, .inl sl)), (ah, .inl (E.2.1 0, 2, .inl hsl)), (ax, .inl (E.2.1 0, 80, .inl (fun j => nI (T j)))), (atd, .inl (E.2.1 0, 123, .inl td)), (av, .inl (E.2.1 0, 64, .inl nw)), (ae, .inl (E.2.1 0, 64, .inl er))]) rfl (fun H hP => gP_cell (ws := [(h, .inr (5, [.ref an, .ref ap_, .ref asl, .ref ah, .int (nI hN), .ref ax, .int (nI tyN), .int th, .int (nI at_), .ref atd, .int (nI tlN), .ref av, .ref ae, .int (nI 0)])), (an, .inl (E.2.1 0, 67, .inl nw)), (ap_, .inl (E.2.1 0, 402, .inl ps)), (asl, .inl (E.2.1 0, 134, .inl sl)), (ah, .inl (E.2.1 0, 2, .inl hsl)), (ax, .inl (E.2.1 0, 80, .inl (fun j => nI (T j)))), (atd, .inl (E.2.1 0, 123, .inl td)), (av, .inl (E.2.1 0, 64, .inl (va_cpy nw va 0 0 64))), (ae, .inl (E.2.1 0, 64, .inl er))]) (k := 7) (a := av) (cA := E.2.1 0) (cB := E.2.1 0) (x := (64, .inl (va_cpy nw va 0 0 64))) (y := (64, .inl nw)) hP (gcell_eq (cpy_all nw va))) ?_
        refine g_iconst cx dX5_paints_31 kc_i0 ?_
        refine g_istore_n (lv' := [(3, .int (nI 0)), (0, .ref h), (1, .int (nI r)), (2, .int thr)]) cx dX5_paints_32 rfl (by decide) rfl ?_
        have L33 : ∀ (n_ : Nat) (i : Nat) (g1 : Nat → Int32) (g2 : Nat → Int32) (g4 : Int32), 64 - i < n_ → g1 = (pst w r thr (nw, er, 0, nI 0) i).1 → g2 = (pst w r thr (nw, er, 0, nI 0) i).2.1 → g4 = (pst w r thr (nw, er, 0, nI 0) i).2.2.2 → i ≤ 64 → gG pX l eX ({ frames := 3, cells := 0, slots := 0, locals := 66 } : Room) sX mX ([.ref h, .int (nI r), .int thr] : List Value).toArray bX tX cX 8 E A (MQ bX (gQ E [(h, .inr (5, [.ref an, .ref ap_, .ref asl, .ref ah, .int (nI hN), .ref ax, .int (nI tyN), .int th, .int (nI at_), .ref atd, .int (nI tlN), .ref av, .ref ae, .int (pG w r thr nw)])), (an, .inl (E.2.1 0, 67, .inl nw)), (ap_, .inl (E.2.1 0, 402, .inl ps)), (asl, .inl (E.2.1 0, 134, .inl sl)), (ah, .inl (E.2.1 0, 2, .inl hsl)), (ax, .inl (E.2.1 0, 80, .inl (fun j => nI (T j)))), (atd, .inl (E.2.1 0, 123, .inl td)), (av, .inl (E.2.1 0, 64, .inl (pV w r thr nw))), (ae, .inl (E.2.1 0, 64, .inl (pE w r thr nw)))] none A) ([.ref h, .int (nI r), .int thr] : List Value).toArray sX 0 0 A) 0 0 [(h, .inr (5, [.ref an, .ref ap_, .ref asl, .ref ah, .int (nI hN), .ref ax, .int (nI tyN), .int th, .int (nI at_), .ref atd, .int (nI tlN), .ref av, .ref ae, .int g4])), (an, .inl (E.2.1 0, 67, .inl nw)), (ap_, .inl (E.2.1 0, 402, .inl ps)), (asl, .inl (E.2.1 0, 134, .inl sl)), (ah, .inl (E.2.1 0, 2, .inl hsl)), (ax, .inl (E.2.1 0, 80, .inl (fun j => nI (T j)))), (atd, .inl (E.2.1 0, 123, .inl td)), (av, .inl (E.2.1 0, 64, .inl g1)), (ae, .inl (E.2.1 0, 64, .inl g2))] [(0, .ref h), (1, .int (nI r)), (2, .int thr), (3, .int (nI i))] [] 33 := by
          intro n_
          induction n_ with
          | zero => intro i g1 g2 g4 hm_; exact absurd hm_ (Nat.not_lt_zero _)
          | succ n_ ih_L33 =>
            intro i g1 g2 g4 hm_ e_g1 e_g2 e_g4 hi
            subst e_g1
            subst e_g2
            subst e_g4
            refine g_iload_n cx dX5_paints_33 rfl ?_
            refine g_bipush cx dX5_paints_34 kc_b64 ?_
            refine g_icmp_ge (tgt := 167) cx dX5_paints_36 (by decide) (fun z2 => ?_) (fun z2 => ?_)
            ·
              have z2 := gn_le (a := 64) (b := i) (by omega) (by omega) z2
              obtain rfl : i = 64 := by omega
              refine g_wsP (ws' := [(h, .inr (5, [.ref an, .ref ap_, .ref asl, .ref ah, .int (nI hN), .ref ax, .int (nI tyN), .int th, .int (nI at_), .ref atd, .int (nI tlN), .ref av, .ref ae, .int ((pst w r thr (nw, er, 0, nI 0) 64).2.2.2)])), (an, .inl (E.2.1 0, 67, .inl nw)), (ap_, .inl (E.2.1 0, 402, .inl ps)), (asl, .inl (E.2.1 0, 134, .inl sl)), (ah, .inl (E.2.1 0, 2, .inl hsl)), (ax, .inl (E.2.1 0, 80, .inl (fun j => nI (T j)))), (atd, .inl (E.2.1 0, 123, .inl td)), (av, .inl (E.2.1 0, 64, .inl ((pst w r thr (nw, er, 0, nI 0) 64).1))), (ae, .inl (E.2.1 0, 64, .inl (pE w r thr nw)))]) rfl (fun H hP => gP_cell (ws := [(h, .inr (5, [.ref an, .ref ap_, .ref asl, .ref ah, .int (nI hN), .ref ax, .int (nI tyN), .int th, .int (nI at_), .ref atd, .int (nI tlN), .ref av, .ref ae, .int ((pst w r thr (nw, er, 0, nI 0) 64).2.2.2)])), (an, .inl (E.2.1 0, 67, .inl nw)), (ap_, .inl (E.2.1 0, 402, .inl ps)), (asl, .inl (E.2.1 0, 134, .inl sl)), (ah, .inl (E.2.1 0, 2, .inl hsl)), (ax, .inl (E.2.1 0, 80, .inl (fun j => nI (T j)))), (atd, .inl (E.2.1 0, 123, .inl td)), (av, .inl (E.2.1 0, 64, .inl ((pst w r thr (nw, er, 0, nI 0) 64).1))), (ae, .inl (E.2.1 0, 64, .inl ((pst w r thr (nw, er, 0, nI 0) 64).2.1)))]) (k := 8) (a := ae) (cA := E.2.1 0) (cB := E.2.1 0) (x := (64, .inl ((pst w r thr (nw, er, 0, nI 0) 64).2.1))) (y := (64, .inl (pE w r thr nw))) hP (gcell_eq (pst_E w hr thr nw er 0))) ?_
              exact g_vretE cx dX5_paints_167 (by rw [pst_V, pst_G])
            ·
              have z2 := gn_nle (a := 64) (b := i) (by omega) (by omega) z2
              have hp := pcl_lt (w := w) (show i < 64 by omega)
              refine g_aload_n cx dX5_paints_39 rfl ?_
              refine g_iload_n cx dX5_paints_40 rfl ?_
              refine g_callV (ws' := [(h, .inr (5, [.ref an, .ref ap_, .ref asl, .ref ah, .int (nI hN), .ref ax, .int (nI tyN), .int th, .int (nI at_), .ref atd, .int (nI tlN), .ref av, .ref ae, .int ((pst w r thr (nw, er, 0, nI 0) i).2.2.2)])), (an, .inl (E.2.1 0, 67, .inl nw)), (ap_, .inl (E.2.1 0, 402, .inl ps)), (asl, .inl (E.2.1 0, 134, .inl sl)), (ah, .inl (E.2.1 0, 2, .inl hsl)), (ax, .inl (E.2.1 0, 80, .inl (fun j => nI (T j)))), (atd, .inl (E.2.1 0, 123, .inl td)), (av, .inl (E.2.1 0, 64, .inl ((pst w r thr (nw, er, 0, nI 0) i).1))), (ae, .inl (E.2.1 0, 64, .inl ((pst w r thr (nw, er, 0, nI 0) i).2.1)))]) (As := [.int (nI i)]) (rest := []) (n := 1) (T := TX5) (N := 14) (ci := 5) cx (c_X5_painted l E h an ap_ asl ah ax atd av ae nw ps sl hsl td ((pst w r thr (nw, er, 0, nI 0) i).1) ((pst w r thr (nw, er, 0, nI 0) i).2.1) T hN tyN at_ tlN th ((pst w r thr (nw, er, 0, nI 0) i).2.2.2) w i (by omega) (by omega)) gX5_paints_X5_painted rfl (by decide +kernel) rfl rfl ⟨Nat.le_of_ble_eq_true rfl, Nat.le_of_ble_eq_true rfl⟩ ⟨Nat.zero_le _, Nat.zero_le _⟩ [0, 1, 2, 3, 4, 5, 6, 7, 8] 0 rfl rfl (by decide) rfl rfl rfl rfl (Nat.le_of_ble_eq_true rfl) dX5_paints_41 ?_
              refine g_istore (lv' := [(4, .int (nI (pcl w i))), (0, .ref h), (1, .int (nI r)), (2, .int thr), (3, .int (nI i))]) cx dX5_paints_44 (by decide) rfl ?_
              have J84 : ∀ (x : Int32), x = stp thr ((pst w r thr (nw, er, 0, nI 0) i).1 (pcl w i)) → gG pX l eX ({ frames := 3, cells := 0, slots := 0, locals := 66 } : Room) sX mX ([.ref h, .int (nI r), .int thr] : List Value).toArray bX tX cX 8 E A (MQ bX (gQ E [(h, .inr (5, [.ref an, .ref ap_, .ref asl, .ref ah, .int (nI hN), .ref ax, .int (nI tyN), .int th, .int (nI at_), .ref atd, .int (nI tlN), .ref av, .ref ae, .int (pG w r thr nw)])), (an, .inl (E.2.1 0, 67, .inl nw)), (ap_, .inl (E.2.1 0, 402, .inl ps)), (asl, .inl (E.2.1 0, 134, .inl sl)), (ah, .inl (E.2.1 0, 2, .inl hsl)), (ax, .inl (E.2.1 0, 80, .inl (fun j => nI (T j)))), (atd, .inl (E.2.1 0, 123, .inl td)), (av, .inl (E.2.1 0, 64, .inl (pV w r thr nw))), (ae, .inl (E.2.1 0, 64, .inl (pE w r thr nw)))] none A) ([.ref h, .int (nI r), .int thr] : List Value).toArray sX 0 0 A) 0 0 [(h, .inr (5, [.ref an, .ref ap_, .ref asl, .ref ah, .int (nI hN), .ref ax, .int (nI tyN), .int th, .int (nI at_), .ref atd, .int (nI tlN), .ref av, .ref ae, .int ((pst w r thr (nw, er, 0, nI 0) i).2.2.2)])), (an, .inl (E.2.1 0, 67, .inl nw)), (ap_, .inl (E.2.1 0, 402, .inl ps)), (asl, .inl (E.2.1 0, 134, .inl sl)), (ah, .inl (E.2.1 0, 2, .inl hsl)), (ax, .inl (E.2.1 0, 80, .inl (fun j => nI (T j)))), (atd, .inl (E.2.1 0, 123, .inl td)), (av, .inl (E.2.1 0, 64, .inl ((pst w r thr (nw, er, 0, nI 0) i).1))), (ae, .inl (E.2.1 0, 64, .inl ((pst w r thr (nw, er, 0, nI 0) i).2.1)))] [(0, .ref h), (1, .int (nI r)), (2, .int thr), (3, .int (nI i)), (4, .int (nI (pcl w i)))] [.int x, .int (nI (pcl w i)), .ref ae] 84 := by
                intro x e_x
                subst e_x
                refine g_iast (ws' := [(h, .inr (5, [.ref an, .ref ap_, .ref asl, .ref ah, .int (nI hN), .ref ax, .int (nI tyN), .int th, .int (nI at_), .ref atd, .int (nI tlN), .ref av, .ref ae, .int ((pst w r thr (nw, er, 0, nI 0) i).2.2.2)])), (an, .inl (E.2.1 0, 67, .inl nw)), (ap_, .inl (E.2.1 0, 402, .inl ps)), (asl, .inl (E.2.1 0, 134, .inl sl)), (ah, .inl (E.2.1 0, 2, .inl hsl)), (ax, .inl (E.2.1 0, 80, .inl (fun j => nI (T j)))), (atd, .inl (E.2.1 0, 123, .inl td)), (av, .inl (E.2.1 0, 64, .inl ((pst w r thr (nw, er, 0, nI 0) i).1))), (ae, .inl (E.2.1 0, 64, .inl (upd ((pst w r thr (nw, er, 0, nI 0) i).2.1) (pcl w i) (stp thr ((pst w r thr (nw, er, 0, nI 0) i).1 (pcl w i))))))]) cx 8 rfl rfl (vp_in_nI (by omega) (by omega)) (by rw [nI_clamp (by omega)]; rfl) dX5_paints_84 ?_
                refine g_iconst cx dX5_paints_85 kc_i0 ?_
                refine g_istore (lv' := [(5, .int (nI 0)), (0, .ref h), (1, .int (nI r)), (2, .int thr), (3, .int (nI i)), (4, .int (nI (pcl w i)))]) cx dX5_paints_86 (by decide) rfl ?_
                have L88 : ∀ (n_ : Nat) (k : Nat) (g : Nat → Int32) (y : Int32), cntR r - k < n_ → g = (hnd (dirI w (pcl w i / 8)) r (pcl w i) (stp thr ((pst w r thr (nw, er, 0, nI 0) i).1 (pcl w i))) k ((pst w r thr (nw, er, 0, nI 0) i).1, (pst w r thr (nw, er, 0, nI 0) i).2.2.2)).1 → y = (hnd (dirI w (pcl w i / 8)) r (pcl w i) (stp thr ((pst w r thr (nw, er, 0, nI 0) i).1 (pcl w i))) k ((pst w r thr (nw, er, 0, nI 0) i).1, (pst w r thr (nw, er, 0, nI 0) i).2.2.2)).2 → k ≤ cntR r → gG pX l eX ({ frames := 3, cells := 0, slots := 0, locals := 66 } : Room) sX mX ([.ref h, .int (nI r), .int thr] : List Value).toArray bX tX cX 8 E A (MQ bX (gQ E [(h, .inr (5, [.ref an, .ref ap_, .ref asl, .ref ah, .int (nI hN), .ref ax, .int (nI tyN), .int th, .int (nI at_), .ref atd, .int (nI tlN), .ref av, .ref ae, .int (pG w r thr nw)])), (an, .inl (E.2.1 0, 67, .inl nw)), (ap_, .inl (E.2.1 0, 402, .inl ps)), (asl, .inl (E.2.1 0, 134, .inl sl)), (ah, .inl (E.2.1 0, 2, .inl hsl)), (ax, .inl (E.2.1 0, 80, .inl (fun j => nI (T j)))), (atd, .inl (E.2.1 0, 123, .inl td)), (av, .inl (E.2.1 0, 64, .inl (pV w r thr nw))), (ae, .inl (E.2.1 0, 64, .inl (pE w r thr nw)))] none A) ([.ref h, .int (nI r), .int thr] : List Value).toArray sX 0 0 A) 0 0 [(h, .inr (5, [.ref an, .ref ap_, .ref asl, .ref ah, .int (nI hN), .ref ax, .int (nI tyN), .int th, .int (nI at_), .ref atd, .int (nI tlN), .ref av, .ref ae, .int y])), (an, .inl (E.2.1 0, 67, .inl nw)), (ap_, .inl (E.2.1 0, 402, .inl ps)), (asl, .inl (E.2.1 0, 134, .inl sl)), (ah, .inl (E.2.1 0, 2, .inl hsl)), (ax, .inl (E.2.1 0, 80, .inl (fun j => nI (T j)))), (atd, .inl (E.2.1 0, 123, .inl td)), (av, .inl (E.2.1 0, 64, .inl g)), (ae, .inl (E.2.1 0, 64, .inl (upd (pst w r thr (nw, er, 0, nI 0) i).2.1 (pcl w i) (stp thr ((pst w r thr (nw, er, 0, nI 0) i).1 (pcl w i))))))] [(0, .ref h), (1, .int (nI r)), (2, .int thr), (3, .int (nI i)), (4, .int (nI (pcl w i))), (5, .int (nI k))] [] 88 := by
                  intro n_
                  induction n_ with
                  | zero => intro k g y hm_; exact absurd hm_ (Nat.not_lt_zero _)
                  | succ n_ ih_L88 =>
                    intro k g y hm_ e_g e_y hk
                    subst e_g
                    subst e_y
                    refine g_iload cx dX5_paints_88 rfl ?_
                    refine g_iload_n cx dX5_paints_90 rfl ?_
                    refine g_callS (ws' := [(h, .inr (5, [.ref an, .ref ap_, .ref asl, .ref ah, .int (nI hN), .ref ax, .int (nI tyN), .int th, .int (nI at_), .ref atd, .int (nI tlN), .ref av, .ref ae, .int ((hnd (dirI w (pcl w i / 8)) r (pcl w i) (stp thr ((pst w r thr (nw, er, 0, nI 0) i).1 (pcl w i))) k ((pst w r thr (nw, er, 0, nI 0) i).1, (pst w r thr (nw, er, 0, nI 0) i).2.2.2)).2)])), (an, .inl (E.2.1 0, 67, .inl nw)), (ap_, .inl (E.2.1 0, 402, .inl ps)), (asl, .inl (E.2.1 0, 134, .inl sl)), (ah, .inl (E.2.1 0, 2, .inl hsl)), (ax, .inl (E.2.1 0, 80, .inl (fun j => nI (T j)))), (atd, .inl (E.2.1 0, 123, .inl td)), (av, .inl (E.2.1 0, 64, .inl ((hnd (dirI w (pcl w i / 8)) r (pcl w i) (stp thr ((pst w r thr (nw, er, 0, nI 0) i).1 (pcl w i))) k ((pst w r thr (nw, er, 0, nI 0) i).1, (pst w r thr (nw, er, 0, nI 0) i).2.2.2)).1))), (ae, .inl (E.2.1 0, 64, .inl (upd (pst w r thr (nw, er, 0, nI 0) i).2.1 (pcl w i) (stp thr ((pst w r thr (nw, er, 0, nI 0) i).1 (pcl w i))))))]) (As := [.int (nI r)]) (rest := [.int (nI k)]) (n := 1) cx (c_X5_neighbours l E r (by omega)) gX5_paints_X5_neighbours rfl (by decide +kernel) rfl rfl ⟨Nat.le_of_ble_eq_true rfl, Nat.le_of_ble_eq_true rfl⟩ ⟨Nat.zero_le _, Nat.zero_le _⟩ [] (by decide) rfl rfl rfl rfl (Nat.le_of_ble_eq_true rfl) dX5_paints_91 ?_
                    refine g_icmp_ge (tgt := 161) cx dX5_paints_94 (by decide) (fun z3 => ?_) (fun z3 => ?_)
                    ·
                      have z3 := gn_le (a := cntR r) (b := k) (by omega) (by omega) z3
                      obtain rfl : k = cntR r := by omega
                      refine g_iinc (lv' := [(3, .int (nI (i + 1))), (0, .ref h), (1, .int (nI r)), (2, .int thr), (4, .int (nI (pcl w i))), (5, .int (nI (cntR r)))]) (k := 3) cx dX5_paints_161 rfl (gn_inc1 i) (by decide) rfl ?_
                      refine g_goto (tgt := 33) cx dX5_paints_164 (by decide) ?_
                      refine g_lv [1, 2, 3, 0] rfl ?_
                      exact ih_L33 (i + 1) ((hnd (dirI w (pcl w i / 8)) r (pcl w i) (stp thr ((pst w r thr (nw, er, 0, nI 0) i).1 (pcl w i))) (cntR r) ((pst w r thr (nw, er, 0, nI 0) i).1, (pst w r thr (nw, er, 0, nI 0) i).2.2.2)).1) (upd (pst w r thr (nw, er, 0, nI 0) i).2.1 (pcl w i) (stp thr ((pst w r thr (nw, er, 0, nI 0) i).1 (pcl w i)))) ((hnd (dirI w (pcl w i / 8)) r (pcl w i) (stp thr ((pst w r thr (nw, er, 0, nI 0) i).1 (pcl w i))) (cntR r) ((pst w r thr (nw, er, 0, nI 0) i).1, (pst w r thr (nw, er, 0, nI 0) i).2.2.2)).2) (by omega) rfl rfl rfl (by omega)
                    ·
                      have z3 := gn_nle (a := cntR r) (b := k) (by omega) (by omega) z3
                      refine g_aload_n cx dX5_paints_97 rfl ?_
                      refine g_iload_n cx dX5_paints_98 rfl ?_
                      refine g_iload cx dX5_paints_99 rfl ?_
                      refine g_iload cx dX5_paints_101 rfl ?_
                      refine g_callV (ws' := [(h, .inr (5, [.ref an, .ref ap_, .ref asl, .ref ah, .int (nI hN), .ref ax, .int (nI tyN), .int th, .int (nI at_), .ref atd, .int (nI tlN), .ref av, .ref ae, .int ((hnd (dirI w (pcl w i / 8)) r (pcl w i) (stp thr ((pst w r thr (nw, er, 0, nI 0) i).1 (pcl w i))) k ((pst w r thr (nw, er, 0, nI 0) i).1, (pst w r thr (nw, er, 0, nI 0) i).2.2.2)).2)])), (an, .inl (E.2.1 0, 67, .inl nw)), (ap_, .inl (E.2.1 0, 402, .inl ps)), (asl, .inl (E.2.1 0, 134, .inl sl)), (ah, .inl (E.2.1 0, 2, .inl hsl)), (ax, .inl (E.2.1 0, 80, .inl (fun j => nI (T j)))), (atd, .inl (E.2.1 0, 123, .inl td)), (av, .inl (E.2.1 0, 64, .inl ((hnd (dirI w (pcl w i / 8)) r (pcl w i) (stp thr ((pst w r thr (nw, er, 0, nI 0) i).1 (pcl w i))) k ((pst w r thr (nw, er, 0, nI 0) i).1, (pst w r thr (nw, er, 0, nI 0) i).2.2.2)).1))), (ae, .inl (E.2.1 0, 64, .inl (upd (pst w r thr (nw, er, 0, nI 0) i).2.1 (pcl w i) (stp thr ((pst w r thr (nw, er, 0, nI 0) i).1 (pcl w i))))))]) (As := [.int (nI r), .int (nI k), .int (nI (pcl w i))]) (rest := []) (n := 3) (T := TX5) (N := 14) (ci := 5) cx (c_X5_neighbour l E h an ap_ asl ah ax atd av ae nw ps sl hsl td ((hnd (dirI w (pcl w i / 8)) r (pcl w i) (stp thr ((pst w r thr (nw, er, 0, nI 0) i).1 (pcl w i))) k ((pst w r thr (nw, er, 0, nI 0) i).1, (pst w r thr (nw, er, 0, nI 0) i).2.2.2)).1) (upd (pst w r thr (nw, er, 0, nI 0) i).2.1 (pcl w i) (stp thr ((pst w r thr (nw, er, 0, nI 0) i).1 (pcl w i)))) T hN tyN at_ tlN th ((hnd (dirI w (pcl w i / 8)) r (pcl w i) (stp thr ((pst w r thr (nw, er, 0, nI 0) i).1 (pcl w i))) k ((pst w r thr (nw, er, 0, nI 0) i).1, (pst w r thr (nw, er, 0, nI 0) i).2.2.2)).2) w r k (pcl w i) (by omega) (by omega) (by omega) (by omega)) gX5_paints_X5_neighbour rfl (by decide +kernel) rfl rfl ⟨Nat.le_of_ble_eq_true rfl, Nat.le_of_ble_eq_true rfl⟩ ⟨Nat.zero_le _, Nat.zero_le _⟩ [0, 1, 2, 3, 4, 5, 6, 7, 8] 0 rfl rfl (by decide) rfl rfl rfl rfl (Nat.le_of_ble_eq_true rfl) dX5_paints_103 ?_
                      refine g_istore (lv' := [(6, .int (tI (dirI w ((pcl w i) / 8)) (nF r + k) (pcl w i))), (0, .ref h), (1, .int (nI r)), (2, .int thr), (3, .int (nI i)), (4, .int (nI (pcl w i))), (5, .int (nI k))]) cx dX5_paints_106 (by decide) rfl ?_
                      refine g_iload_n cx dX5_paints_108 rfl ?_
                      refine g_iload cx dX5_paints_109 rfl ?_
                      refine g_aload_n cx dX5_paints_111 rfl ?_
                      refine g_get (C := RX5) (T := TX5) (N := 14) (ci := 5) cx hiX5 0 12 (by decide) rfl (by decide +kernel) rfl rfl dX5_paints_112 ?_
                      refine g_iload cx dX5_paints_115 rfl ?_
                      refine g_iald cx 8 rfl rfl (vp_in_nI (by omega) (by omega)) (congrArg _ (nI_clamp (by omega))) dX5_paints_117 ?_
                      refine g_top (show ((upd (pst w r thr (nw, er, 0, nI 0) i).2.1 (pcl w i) (stp thr ((pst w r thr (nw, er, 0, nI 0) i).1 (pcl w i)))) (pcl w i)) = stp thr ((pst w r thr (nw, er, 0, nI 0) i).1 (pcl w i)) from upd_at _ _ _) ?_
                      refine g_callS (ws' := [(h, .inr (5, [.ref an, .ref ap_, .ref asl, .ref ah, .int (nI hN), .ref ax, .int (nI tyN), .int th, .int (nI at_), .ref atd, .int (nI tlN), .ref av, .ref ae, .int ((hnd (dirI w (pcl w i / 8)) r (pcl w i) (stp thr ((pst w r thr (nw, er, 0, nI 0) i).1 (pcl w i))) k ((pst w r thr (nw, er, 0, nI 0) i).1, (pst w r thr (nw, er, 0, nI 0) i).2.2.2)).2)])), (an, .inl (E.2.1 0, 67, .inl nw)), (ap_, .inl (E.2.1 0, 402, .inl ps)), (asl, .inl (E.2.1 0, 134, .inl sl)), (ah, .inl (E.2.1 0, 2, .inl hsl)), (ax, .inl (E.2.1 0, 80, .inl (fun j => nI (T j)))), (atd, .inl (E.2.1 0, 123, .inl td)), (av, .inl (E.2.1 0, 64, .inl ((hnd (dirI w (pcl w i / 8)) r (pcl w i) (stp thr ((pst w r thr (nw, er, 0, nI 0) i).1 (pcl w i))) k ((pst w r thr (nw, er, 0, nI 0) i).1, (pst w r thr (nw, er, 0, nI 0) i).2.2.2)).1))), (ae, .inl (E.2.1 0, 64, .inl (upd (pst w r thr (nw, er, 0, nI 0) i).2.1 (pcl w i) (stp thr ((pst w r thr (nw, er, 0, nI 0) i).1 (pcl w i))))))]) (As := [.int (nI r), .int (nI k), .int (stp thr ((pst w r thr (nw, er, 0, nI 0) i).1 (pcl w i)))]) (rest := []) (n := 3) cx (c_X5_part l E r k (stp thr ((pst w r thr (nw, er, 0, nI 0) i).1 (pcl w i))) (by omega) (by omega)) gX5_paints_X5_part rfl (by decide +kernel) rfl rfl ⟨Nat.le_of_ble_eq_true rfl, Nat.le_of_ble_eq_true rfl⟩ ⟨Nat.zero_le _, Nat.zero_le _⟩ [] (by decide) rfl rfl rfl rfl (Nat.le_of_ble_eq_true rfl) dX5_paints_118 ?_
                      refine g_istore (lv' := [(7, .int (sh r (nF r + k) (stp thr ((pst w r thr (nw, er, 0, nI 0) i).1 (pcl w i))))), (6, .int (tI (dirI w ((pcl w i) / 8)) (nF r + k) (pcl w i))), (0, .ref h), (1, .int (nI r)), (2, .int thr), (3, .int (nI i)), (4, .int (nI (pcl w i))), (5, .int (nI k))]) cx dX5_paints_121 (by decide) rfl ?_
                      refine g_iload cx dX5_paints_123 rfl ?_
                      refine g_iconst cx dX5_paints_125 kc_im1 ?_
                      refine g_icmp_ne (tgt := 143) cx dX5_paints_126 (by decide) (fun z4 => ?_) (fun z4 => ?_)
                      ·
                        have ht := tI_nat (d := dirI w (pcl w i / 8)) (j := nF r + k) (c := pcl w i) (dirI_cases _ _) (by omega) hp (by assumption)
                        rw [ht.2]
                        refine g_aload_n cx dX5_paints_143 rfl ?_
                        refine g_get (C := RX5) (T := TX5) (N := 14) (ci := 5) cx hiX5 0 11 (by decide) rfl (by decide +kernel) rfl rfl dX5_paints_144 ?_
                        refine g_iload cx dX5_paints_147 rfl ?_
                        refine g_dup2 cx dX5_paints_149 rfl rfl ?_
                        refine g_iald cx 7 rfl rfl (vp_in_nI (by omega) (by omega)) (congrArg _ (nI_clamp (by omega))) dX5_paints_150 ?_
                        refine g_iload cx dX5_paints_151 rfl ?_
                        refine g_iadd cx dX5_paints_153 ?_
                        refine g_iast (ws' := [(h, .inr (5, [.ref an, .ref ap_, .ref asl, .ref ah, .int (nI hN), .ref ax, .int (nI tyN), .int th, .int (nI at_), .ref atd, .int (nI tlN), .ref av, .ref ae, .int ((hnd (dirI w (pcl w i / 8)) r (pcl w i) (stp thr ((pst w r thr (nw, er, 0, nI 0) i).1 (pcl w i))) k ((pst w r thr (nw, er, 0, nI 0) i).1, (pst w r thr (nw, er, 0, nI 0) i).2.2.2)).2)])), (an, .inl (E.2.1 0, 67, .inl nw)), (ap_, .inl (E.2.1 0, 402, .inl ps)), (asl, .inl (E.2.1 0, 134, .inl sl)), (ah, .inl (E.2.1 0, 2, .inl hsl)), (ax, .inl (E.2.1 0, 80, .inl (fun j => nI (T j)))), (atd, .inl (E.2.1 0, 123, .inl td)), (av, .inl (E.2.1 0, 64, .inl (upd ((hnd (dirI w (pcl w i / 8)) r (pcl w i) (stp thr ((pst w r thr (nw, er, 0, nI 0) i).1 (pcl w i))) k ((pst w r thr (nw, er, 0, nI 0) i).1, (pst w r thr (nw, er, 0, nI 0) i).2.2.2)).1) (tN (dirI w (pcl w i / 8)) (nF r + k) (pcl w i)) ((((hnd (dirI w (pcl w i / 8)) r (pcl w i) (stp thr ((pst w r thr (nw, er, 0, nI 0) i).1 (pcl w i))) k ((pst w r thr (nw, er, 0, nI 0) i).1, (pst w r thr (nw, er, 0, nI 0) i).2.2.2)).1) (tN (dirI w (pcl w i / 8)) (nF r + k) (pcl w i))) + (sh r (nF r + k) (stp thr ((pst w r thr (nw, er, 0, nI 0) i).1 (pcl w i)))))))), (ae, .inl (E.2.1 0, 64, .inl (upd (pst w r thr (nw, er, 0, nI 0) i).2.1 (pcl w i) (stp thr ((pst w r thr (nw, er, 0, nI 0) i).1 (pcl w i))))))]) cx 7 rfl rfl (vp_in_nI (by omega) (by omega)) (by rw [nI_clamp (by omega)]; rfl) dX5_paints_154 ?_
                        refine g_iinc (lv' := [(5, .int (nI (k + 1))), (7, .int (sh r (nF r + k) (stp thr ((pst w r thr (nw, er, 0, nI 0) i).1 (pcl w i))))), (6, .int (nI (tN (dirI w (pcl w i / 8)) (nF r + k) (pcl w i)))), (0, .ref h), (1, .int (nI r)), (2, .int thr), (3, .int (nI i)), (4, .int (nI (pcl w i)))]) (k := 7) cx dX5_paints_155 rfl (gn_inc1 k) (by decide) rfl ?_
                        refine g_goto (tgt := 88) cx dX5_paints_158 (by decide) ?_
                        refine g_lv [3, 4, 5, 6, 7, 0] rfl ?_
                        exact ih_L88 (k + 1) (upd ((hnd (dirI w (pcl w i / 8)) r (pcl w i) (stp thr ((pst w r thr (nw, er, 0, nI 0) i).1 (pcl w i))) k ((pst w r thr (nw, er, 0, nI 0) i).1, (pst w r thr (nw, er, 0, nI 0) i).2.2.2)).1) (tN (dirI w (pcl w i / 8)) (nF r + k) (pcl w i)) ((((hnd (dirI w (pcl w i / 8)) r (pcl w i) (stp thr ((pst w r thr (nw, er, 0, nI 0) i).1 (pcl w i))) k ((pst w r thr (nw, er, 0, nI 0) i).1, (pst w r thr (nw, er, 0, nI 0) i).2.2.2)).1) (tN (dirI w (pcl w i / 8)) (nF r + k) (pcl w i))) + (sh r (nF r + k) (stp thr ((pst w r thr (nw, er, 0, nI 0) i).1 (pcl w i)))))) ((hnd (dirI w (pcl w i / 8)) r (pcl w i) (stp thr ((pst w r thr (nw, er, 0, nI 0) i).1 (pcl w i))) k ((pst w r thr (nw, er, 0, nI 0) i).1, (pst w r thr (nw, er, 0, nI 0) i).2.2.2)).2) (by omega) (by first | exact (congrArg Prod.fst (hnd_p (d := dirI w (pcl w i / 8)) (r := r) (c := pcl w i) (k := k) (e := stp thr ((pst w r thr (nw, er, 0, nI 0) i).1 (pcl w i))) (s := ((pst w r thr (nw, er, 0, nI 0) i).1, (pst w r thr (nw, er, 0, nI 0) i).2.2.2)) (by assumption))).symm | exact (congrArg Prod.fst (hnd_n (d := dirI w (pcl w i / 8)) (r := r) (c := pcl w i) (k := k) (e := stp thr ((pst w r thr (nw, er, 0, nI 0) i).1 (pcl w i))) (s := ((pst w r thr (nw, er, 0, nI 0) i).1, (pst w r thr (nw, er, 0, nI 0) i).2.2.2)) (by assumption))).symm) (by first | exact (congrArg Prod.snd (hnd_p (d := dirI w (pcl w i / 8)) (r := r) (c := pcl w i) (k := k) (e := stp thr ((pst w r thr (nw, er, 0, nI 0) i).1 (pcl w i))) (s := ((pst w r thr (nw, er, 0, nI 0) i).1, (pst w r thr (nw, er, 0, nI 0) i).2.2.2)) (by assumption))).symm | exact (congrArg Prod.snd (hnd_n (d := dirI w (pcl w i / 8)) (r := r) (c := pcl w i) (k := k) (e := stp thr ((pst w r thr (nw, er, 0, nI 0) i).1 (pcl w i))) (s := ((pst w r thr (nw, er, 0, nI 0) i).1, (pst w r thr (nw, er, 0, nI 0) i).2.2.2)) (by assumption))).symm) (by omega)
                      ·
                        refine g_aload_n cx dX5_paints_129 rfl ?_
                        refine g_dup cx dX5_paints_130 rfl ?_
                        refine g_get (C := RX5) (T := TX5) (N := 14) (ci := 5) cx hiX5 0 13 (by decide) rfl (by decide +kernel) rfl rfl dX5_paints_131 ?_
                        refine g_iload cx dX5_paints_134 rfl ?_
                        refine g_iadd cx dX5_paints_136 ?_
                        refine g_put (ws' := [(h, .inr (5, [.ref an, .ref ap_, .ref asl, .ref ah, .int (nI hN), .ref ax, .int (nI tyN), .int th, .int (nI at_), .ref atd, .int (nI tlN), .ref av, .ref ae, .int (((hnd (dirI w (pcl w i / 8)) r (pcl w i) (stp thr ((pst w r thr (nw, er, 0, nI 0) i).1 (pcl w i))) k ((pst w r thr (nw, er, 0, nI 0) i).1, (pst w r thr (nw, er, 0, nI 0) i).2.2.2)).2) + (sh r (nF r + k) (stp thr ((pst w r thr (nw, er, 0, nI 0) i).1 (pcl w i)))))])), (an, .inl (E.2.1 0, 67, .inl nw)), (ap_, .inl (E.2.1 0, 402, .inl ps)), (asl, .inl (E.2.1 0, 134, .inl sl)), (ah, .inl (E.2.1 0, 2, .inl hsl)), (ax, .inl (E.2.1 0, 80, .inl (fun j => nI (T j)))), (atd, .inl (E.2.1 0, 123, .inl td)), (av, .inl (E.2.1 0, 64, .inl ((hnd (dirI w (pcl w i / 8)) r (pcl w i) (stp thr ((pst w r thr (nw, er, 0, nI 0) i).1 (pcl w i))) k ((pst w r thr (nw, er, 0, nI 0) i).1, (pst w r thr (nw, er, 0, nI 0) i).2.2.2)).1))), (ae, .inl (E.2.1 0, 64, .inl (upd (pst w r thr (nw, er, 0, nI 0) i).2.1 (pcl w i) (stp thr ((pst w r thr (nw, er, 0, nI 0) i).1 (pcl w i))))))]) (C := RX5) (T := TX5) (N := 14) (ci := 5) cx hiX5 tyX5 tyX5_ok nmX5 0 13 (by decide) rfl (by decide +kernel) rfl rfl rfl rfl rfl (Nat.le_of_ble_eq_true rfl) rfl dX5_paints_137 ?_
                        refine g_goto (tgt := 155) cx dX5_paints_140 (by decide) ?_
                        refine g_iinc (lv' := [(5, .int (nI (k + 1))), (7, .int (sh r (nF r + k) (stp thr ((pst w r thr (nw, er, 0, nI 0) i).1 (pcl w i))))), (6, .int (tI (dirI w ((pcl w i) / 8)) (nF r + k) (pcl w i))), (0, .ref h), (1, .int (nI r)), (2, .int thr), (3, .int (nI i)), (4, .int (nI (pcl w i)))]) (k := 7) cx dX5_paints_155 rfl (gn_inc1 k) (by decide) rfl ?_
                        refine g_goto (tgt := 88) cx dX5_paints_158 (by decide) ?_
                        refine g_lv [3, 4, 5, 6, 7, 0] rfl ?_
                        exact ih_L88 (k + 1) ((hnd (dirI w (pcl w i / 8)) r (pcl w i) (stp thr ((pst w r thr (nw, er, 0, nI 0) i).1 (pcl w i))) k ((pst w r thr (nw, er, 0, nI 0) i).1, (pst w r thr (nw, er, 0, nI 0) i).2.2.2)).1) (((hnd (dirI w (pcl w i / 8)) r (pcl w i) (stp thr ((pst w r thr (nw, er, 0, nI 0) i).1 (pcl w i))) k ((pst w r thr (nw, er, 0, nI 0) i).1, (pst w r thr (nw, er, 0, nI 0) i).2.2.2)).2) + (sh r (nF r + k) (stp thr ((pst w r thr (nw, er, 0, nI 0) i).1 (pcl w i))))) (by omega) (by first | exact (congrArg Prod.fst (hnd_p (d := dirI w (pcl w i / 8)) (r := r) (c := pcl w i) (k := k) (e := stp thr ((pst w r thr (nw, er, 0, nI 0) i).1 (pcl w i))) (s := ((pst w r thr (nw, er, 0, nI 0) i).1, (pst w r thr (nw, er, 0, nI 0) i).2.2.2)) (by assumption))).symm | exact (congrArg Prod.fst (hnd_n (d := dirI w (pcl w i / 8)) (r := r) (c := pcl w i) (k := k) (e := stp thr ((pst w r thr (nw, er, 0, nI 0) i).1 (pcl w i))) (s := ((pst w r thr (nw, er, 0, nI 0) i).1, (pst w r thr (nw, er, 0, nI 0) i).2.2.2)) (by assumption))).symm) (by first | exact (congrArg Prod.snd (hnd_p (d := dirI w (pcl w i / 8)) (r := r) (c := pcl w i) (k := k) (e := stp thr ((pst w r thr (nw, er, 0, nI 0) i).1 (pcl w i))) (s := ((pst w r thr (nw, er, 0, nI 0) i).1, (pst w r thr (nw, er, 0, nI 0) i).2.2.2)) (by assumption))).symm | exact (congrArg Prod.snd (hnd_n (d := dirI w (pcl w i / 8)) (r := r) (c := pcl w i) (k := k) (e := stp thr ((pst w r thr (nw, er, 0, nI 0) i).1 (pcl w i))) (s := ((pst w r thr (nw, er, 0, nI 0) i).1, (pst w r thr (nw, er, 0, nI 0) i).2.2.2)) (by assumption))).symm) (by omega)
                refine g_lv [1, 2, 3, 4, 5, 0] rfl ?_
                exact L88 (cntR r - 0 + 1) 0 ((pst w r thr (nw, er, 0, nI 0) i).1) ((pst w r thr (nw, er, 0, nI 0) i).2.2.2) (by omega) rfl rfl (by omega)
              refine g_aload_n cx dX5_paints_46 rfl ?_
              refine g_get (C := RX5) (T := TX5) (N := 14) (ci := 5) cx hiX5 0 12 (by decide) rfl (by decide +kernel) rfl rfl dX5_paints_47 ?_
              refine g_iload cx dX5_paints_50 rfl ?_
              refine g_aload_n cx dX5_paints_52 rfl ?_
              refine g_get (C := RX5) (T := TX5) (N := 14) (ci := 5) cx hiX5 0 11 (by decide) rfl (by decide +kernel) rfl rfl dX5_paints_53 ?_
              refine g_iload cx dX5_paints_56 rfl ?_
              refine g_iald cx 7 rfl rfl (vp_in_nI (by omega) (by omega)) (congrArg _ (nI_clamp (by omega))) dX5_paints_58 ?_
              refine g_iload_n cx dX5_paints_59 rfl ?_
              refine g_icmp_lt (tgt := 77) cx dX5_paints_60 (by decide) (fun z5 => ?_) (fun z5 => ?_)
              ·
                refine g_aload_n cx dX5_paints_77 rfl ?_
                refine g_get (C := RX5) (T := TX5) (N := 14) (ci := 5) cx hiX5 0 11 (by decide) rfl (by decide +kernel) rfl rfl dX5_paints_78 ?_
                refine g_iload cx dX5_paints_81 rfl ?_
                refine g_iald cx 7 rfl rfl (vp_in_nI (by omega) (by omega)) (congrArg _ (nI_clamp (by omega))) dX5_paints_83 ?_
                refine g_lv [1, 2, 3, 4, 0] rfl ?_
                exact J84 (((pst w r thr (nw, er, 0, nI 0) i).1) (pcl w i)) (by unfold stp; first | rw [if_pos (by assumption)] | rw [if_neg (by assumption)])
              ·
                refine g_aload_n cx dX5_paints_63 rfl ?_
                refine g_get (C := RX5) (T := TX5) (N := 14) (ci := 5) cx hiX5 0 11 (by decide) rfl (by decide +kernel) rfl rfl dX5_paints_64 ?_
                refine g_iload cx dX5_paints_67 rfl ?_
                refine g_iald cx 7 rfl rfl (vp_in_nI (by omega) (by omega)) (congrArg _ (nI_clamp (by omega))) dX5_paints_69 ?_
                refine g_sipush cx dX5_paints_70 kc_s255 ?_
                refine g_isub cx dX5_paints_73 ?_
                refine g_goto (tgt := 84) cx dX5_paints_74 (by decide) ?_
                refine g_lv [1, 2, 3, 4, 0] rfl ?_
                exact J84 ((((pst w r thr (nw, er, 0, nI 0) i).1) (pcl w i)) - (nI 255)) (by unfold stp; first | rw [if_pos (by assumption)] | rw [if_neg (by assumption)])
        refine g_lv [1, 2, 3, 0] rfl ?_
        exact L33 (64 - 0 + 1) 0 nw er (nI 0) (by omega) rfl rfl rfl (by omega)
      ·
        have z1 := gn_nle (a := 64) (b := i) (by omega) (by omega) z1
        refine g_aload_n cx dX5_paints_13 rfl ?_
        refine g_get (C := RX5) (T := TX5) (N := 14) (ci := 5) cx hiX5 0 11 (by decide) rfl (by decide +kernel) rfl rfl dX5_paints_14 ?_
        refine g_iload_n cx dX5_paints_17 rfl ?_
        refine g_aload_n cx dX5_paints_18 rfl ?_
        refine g_get (C := RX5) (T := TX5) (N := 14) (ci := 5) cx hiX5 0 0 (by decide) rfl (by decide +kernel) rfl rfl dX5_paints_19 ?_
        refine g_iload_n cx dX5_paints_22 rfl ?_
        refine g_iald cx 1 rfl rfl (vp_in_nI (by omega) (by omega)) (congrArg _ (nI_clamp (by omega))) dX5_paints_23 ?_
        refine g_iast (ws' := [(h, .inr (5, [.ref an, .ref ap_, .ref asl, .ref ah, .int (nI hN), .ref ax, .int (nI tyN), .int th, .int (nI at_), .ref atd, .int (nI tlN), .ref av, .ref ae, .int (nI 0)])), (an, .inl (E.2.1 0, 67, .inl nw)), (ap_, .inl (E.2.1 0, 402, .inl ps)), (asl, .inl (E.2.1 0, 134, .inl sl)), (ah, .inl (E.2.1 0, 2, .inl hsl)), (ax, .inl (E.2.1 0, 80, .inl (fun j => nI (T j)))), (atd, .inl (E.2.1 0, 123, .inl td)), (av, .inl (E.2.1 0, 64, .inl (upd (va_cpy nw va 0 0 i) i (nw i)))), (ae, .inl (E.2.1 0, 64, .inl er))]) cx 7 rfl rfl (vp_in_nI (by omega) (by omega)) (by rw [nI_clamp (by omega)]; rfl) dX5_paints_24 ?_
        refine g_iinc (lv' := [(3, .int (nI (i + 1))), (0, .ref h), (1, .int (nI r)), (2, .int thr)]) (k := 3) cx dX5_paints_25 rfl (gn_inc1 i) (by decide) rfl ?_
        refine g_goto (tgt := 7) cx dX5_paints_28 (by decide) ?_
        refine g_lv [1, 2, 3, 0] rfl ?_
        exact ih_L7 (i + 1) (upd (va_cpy nw va 0 0 i) i (nw i)) (by omega) (cpy_s0 _ _ _) (by omega)
  refine g_lv [1, 2, 3, 0] rfl ?_
  exact L7 (64 - 0 + 1) 0 va (by omega) (cpy_0 _ _ _ _).symm (by omega)
set_option maxRecDepth 100000 in
set_option maxHeartbeats 4000000 in
theorem c_X5_paintsNow (l : Launch) (E : gEnv) (h : Nat) (an : Nat) (ap_ : Nat) (asl : Nat) (ah : Nat) (ax : Nat) (atd : Nat) (av : Nat) (ae : Nat) (nw : Nat → Int32) (ps : Nat → Int32) (sl : Nat → Int32) (hsl : Nat → Int32) (td : Nat → Int32) (va : Nat → Int32) (er : Nat → Int32) (T : Nat → Nat) (hN : Nat) (tyN : Nat) (at_ : Nat) (tlN : Nat) (th : Int32) (go : Int32) (w : Bool) (r : Nat) (hw : nw 66 = gB w) (hr : nw 64 = nI r) (hr4 : r < 4) : gM l yX5_paintsNow wsX5_paintsNow ({ frames := 4, cells := 0, slots := 0, locals := 93 } : Room) E [.ref h] [(h, .inr (5, [.ref an, .ref ap_, .ref asl, .ref ah, .int (nI hN), .ref ax, .int (nI tyN), .int th, .int (nI at_), .ref atd, .int (nI tlN), .ref av, .ref ae, .int go])), (an, .inl (E.2.1 0, 67, .inl nw)), (ap_, .inl (E.2.1 0, 402, .inl ps)), (asl, .inl (E.2.1 0, 134, .inl sl)), (ah, .inl (E.2.1 0, 2, .inl hsl)), (ax, .inl (E.2.1 0, 80, .inl (fun j => nI (T j)))), (atd, .inl (E.2.1 0, 123, .inl td)), (av, .inl (E.2.1 0, 64, .inl va)), (ae, .inl (E.2.1 0, 64, .inl er))] [(h, .inr (5, [.ref an, .ref ap_, .ref asl, .ref ah, .int (nI hN), .ref ax, .int (nI tyN), .int th, .int (nI at_), .ref atd, .int (nI tlN), .ref av, .ref ae, .int (pG w r (nw 65) nw)])), (an, .inl (E.2.1 0, 67, .inl nw)), (ap_, .inl (E.2.1 0, 402, .inl ps)), (asl, .inl (E.2.1 0, 134, .inl sl)), (ah, .inl (E.2.1 0, 2, .inl hsl)), (ax, .inl (E.2.1 0, 80, .inl (fun j => nI (T j)))), (atd, .inl (E.2.1 0, 123, .inl td)), (av, .inl (E.2.1 0, 64, .inl (pV w r (nw 65) nw))), (ae, .inl (E.2.1 0, 64, .inl (pE w r (nw 65) nw)))] none := by
  refine gM.ofG (cc := cX5_paintsNow) (nL := 1) (ret := none) (own := RX5) [(0, .ref h)] (by decide) rfl rfl (Nat.le_of_ble_eq_true rfl) rfl rfl ?_
  intro pX eX sX mX bX tX cX A cx
  have hiX5 : ∀ w ∈ u_ws RX5 TX5 14, w ∈ wsX5_paintsNow := by decide +kernel
  refine g_aload_n cx dX5_paintsNow_0 rfl ?_
  refine g_aload_n cx dX5_paintsNow_1 rfl ?_
  refine g_get (C := RX5) (T := TX5) (N := 14) (ci := 5) cx hiX5 0 0 (by decide) rfl (by decide +kernel) rfl rfl dX5_paintsNow_2 ?_
  refine g_bipush cx dX5_paintsNow_5 kc_b64 ?_
  refine g_iald cx 1 rfl rfl (vp_in_nI (by omega) (by omega)) (congrArg _ (nI_clamp (by omega))) dX5_paintsNow_7 ?_
  refine g_top (show (nw 64) = nI r from hr) ?_
  refine g_aload_n cx dX5_paintsNow_8 rfl ?_
  refine g_get (C := RX5) (T := TX5) (N := 14) (ci := 5) cx hiX5 0 0 (by decide) rfl (by decide +kernel) rfl rfl dX5_paintsNow_9 ?_
  refine g_bipush cx dX5_paintsNow_12 kc_b65 ?_
  refine g_iald cx 1 rfl rfl (vp_in_nI (by omega) (by omega)) (congrArg _ (nI_clamp (by omega))) dX5_paintsNow_14 ?_
  refine g_callV (ws' := [(h, .inr (5, [.ref an, .ref ap_, .ref asl, .ref ah, .int (nI hN), .ref ax, .int (nI tyN), .int th, .int (nI at_), .ref atd, .int (nI tlN), .ref av, .ref ae, .int (pG w r (nw 65) nw)])), (an, .inl (E.2.1 0, 67, .inl nw)), (ap_, .inl (E.2.1 0, 402, .inl ps)), (asl, .inl (E.2.1 0, 134, .inl sl)), (ah, .inl (E.2.1 0, 2, .inl hsl)), (ax, .inl (E.2.1 0, 80, .inl (fun j => nI (T j)))), (atd, .inl (E.2.1 0, 123, .inl td)), (av, .inl (E.2.1 0, 64, .inl (pV w r (nw 65) nw))), (ae, .inl (E.2.1 0, 64, .inl (pE w r (nw 65) nw)))]) (As := [.int (nI r), .int (nw 65)]) (rest := []) (n := 2) (T := TX5) (N := 14) (ci := 5) cx (c_X5_paints l E h an ap_ asl ah ax atd av ae nw ps sl hsl td va er T hN tyN at_ tlN th go w r (nw 65) (by omega) (by omega)) gX5_paintsNow_X5_paints rfl (by decide +kernel) rfl rfl ⟨Nat.le_of_ble_eq_true rfl, Nat.le_of_ble_eq_true rfl⟩ ⟨Nat.zero_le _, Nat.zero_le _⟩ [0, 1, 2, 3, 4, 5, 6, 7, 8] 0 rfl rfl (by decide) rfl rfl rfl rfl (Nat.le_of_ble_eq_true rfl) dX5_paintsNow_15 ?_
  exact g_vretE cx dX5_paintsNow_18 (rfl)
set_option maxRecDepth 100000 in
set_option maxHeartbeats 4000000 in
theorem c_X5_flake (l : Launch) (E : gEnv) (h : Nat) (an : Nat) (ap_ : Nat) (asl : Nat) (ah : Nat) (ax : Nat) (atd : Nat) (av : Nat) (ae : Nat) (nw : Nat → Int32) (ps : Nat → Int32) (sl : Nat → Int32) (hsl : Nat → Int32) (td : Nat → Int32) (va : Nat → Int32) (er : Nat → Int32) (T : Nat → Nat) (hN : Nat) (tyN : Nat) (at_ : Nat) (tlN : Nat) (th : Int32) (go : Int32) (c : Nat) (hc : c < 64) : gM l yX5_flake wsX5_flake ({ frames := 0, cells := 0, slots := 0, locals := 0 } : Room) E [.ref h, .int (nI c)] [(h, .inr (5, [.ref an, .ref ap_, .ref asl, .ref ah, .int (nI hN), .ref ax, .int (nI tyN), .int th, .int (nI at_), .ref atd, .int (nI tlN), .ref av, .ref ae, .int go])), (an, .inl (E.2.1 0, 67, .inl nw)), (ap_, .inl (E.2.1 0, 402, .inl ps)), (asl, .inl (E.2.1 0, 134, .inl sl)), (ah, .inl (E.2.1 0, 2, .inl hsl)), (ax, .inl (E.2.1 0, 80, .inl (fun j => nI (T j)))), (atd, .inl (E.2.1 0, 123, .inl td)), (av, .inl (E.2.1 0, 64, .inl va)), (ae, .inl (E.2.1 0, 64, .inl er))] [(h, .inr (5, [.ref an, .ref ap_, .ref asl, .ref ah, .int (nI hN), .ref ax, .int (nI tyN), .int th, .int (nI at_), .ref atd, .int (nI tlN), .ref av, .ref ae, .int go])), (an, .inl (E.2.1 0, 67, .inl nw)), (ap_, .inl (E.2.1 0, 402, .inl ps)), (asl, .inl (E.2.1 0, 134, .inl sl)), (ah, .inl (E.2.1 0, 2, .inl hsl)), (ax, .inl (E.2.1 0, 80, .inl (fun j => nI (T j)))), (atd, .inl (E.2.1 0, 123, .inl td)), (av, .inl (E.2.1 0, 64, .inl va)), (ae, .inl (E.2.1 0, 64, .inl er))] (some (.int (gB (flB er va c)))) := by
  refine gM.ofG (cc := cX5_flake) (nL := 2) (ret := (some .boolean)) (own := RX5) [(0, .ref h), (1, .int (nI c))] (by decide) rfl rfl (Nat.le_of_ble_eq_true rfl) rfl rfl ?_
  intro pX eX sX mX bX tX cX A cx
  have hiX5 : ∀ w ∈ u_ws RX5 TX5 14, w ∈ wsX5_flake := by decide +kernel
  refine g_aload_n cx dX5_flake_0 rfl ?_
  refine g_get (C := RX5) (T := TX5) (N := 14) (ci := 5) cx hiX5 0 12 (by decide) rfl (by decide +kernel) rfl rfl dX5_flake_1 ?_
  refine g_iload_n cx dX5_flake_4 rfl ?_
  refine g_iald cx 8 rfl rfl (vp_in_nI (by omega) (by omega)) (congrArg _ (nI_clamp (by omega))) dX5_flake_5 ?_
  refine g_aload_n cx dX5_flake_6 rfl ?_
  refine g_get (C := RX5) (T := TX5) (N := 14) (ci := 5) cx hiX5 0 11 (by decide) rfl (by decide +kernel) rfl rfl dX5_flake_7 ?_
  refine g_iload_n cx dX5_flake_10 rfl ?_
  refine g_iald cx 7 rfl rfl (vp_in_nI (by omega) (by omega)) (congrArg _ (nI_clamp (by omega))) dX5_flake_11 ?_
  refine g_icmp_eq (tgt := 19) cx dX5_flake_12 (by decide) (fun z1 => ?_) (fun z1 => ?_)
  ·
    refine g_iconst cx dX5_flake_19 kc_i0 ?_
    exact g_zretE cx (by decide +kernel) dX5_flake_20 (rfl) (by first | exact gB_of (decide_eq_true (by assumption)) | exact gB_off (decide_eq_false (fun z => z (by assumption))))
  ·
    refine g_iconst cx dX5_flake_15 kc_i1 ?_
    refine g_goto (tgt := 20) cx dX5_flake_16 (by decide) ?_
    exact g_zretE cx (by decide +kernel) dX5_flake_20 (rfl) (by first | exact gB_of (decide_eq_true (by assumption)) | exact gB_off (decide_eq_false (fun z => z (by assumption))))
set_option maxRecDepth 100000 in
set_option maxHeartbeats 4000000 in
theorem c_X5_many (l : Launch) (E : gEnv) (h : Nat) (an : Nat) (ap_ : Nat) (asl : Nat) (ah : Nat) (ax : Nat) (atd : Nat) (av : Nat) (ae : Nat) (nw : Nat → Int32) (ps : Nat → Int32) (sl : Nat → Int32) (hsl : Nat → Int32) (td : Nat → Int32) (va : Nat → Int32) (er : Nat → Int32) (T : Nat → Nat) (hN : Nat) (tyN : Nat) (at_ : Nat) (tlN : Nat) (th : Int32) (go : Int32)  : gM l yX5_many wsX5_many ({ frames := 1, cells := 0, slots := 0, locals := 21 } : Room) E [.ref h] [(h, .inr (5, [.ref an, .ref ap_, .ref asl, .ref ah, .int (nI hN), .ref ax, .int (nI tyN), .int th, .int (nI at_), .ref atd, .int (nI tlN), .ref av, .ref ae, .int go])), (an, .inl (E.2.1 0, 67, .inl nw)), (ap_, .inl (E.2.1 0, 402, .inl ps)), (asl, .inl (E.2.1 0, 134, .inl sl)), (ah, .inl (E.2.1 0, 2, .inl hsl)), (ax, .inl (E.2.1 0, 80, .inl (fun j => nI (T j)))), (atd, .inl (E.2.1 0, 123, .inl td)), (av, .inl (E.2.1 0, 64, .inl va)), (ae, .inl (E.2.1 0, 64, .inl er))] [(h, .inr (5, [.ref an, .ref ap_, .ref asl, .ref ah, .int (nI hN), .ref ax, .int (nI tyN), .int th, .int (nI at_), .ref atd, .int (nI tlN), .ref av, .ref ae, .int go])), (an, .inl (E.2.1 0, 67, .inl nw)), (ap_, .inl (E.2.1 0, 402, .inl ps)), (asl, .inl (E.2.1 0, 134, .inl sl)), (ah, .inl (E.2.1 0, 2, .inl hsl)), (ax, .inl (E.2.1 0, 80, .inl (fun j => nI (T j)))), (atd, .inl (E.2.1 0, 123, .inl td)), (av, .inl (E.2.1 0, 64, .inl va)), (ae, .inl (E.2.1 0, 64, .inl er))] (some (.int (nI (mny er va 64)))) := by
  refine gM.ofG (cc := cX5_many) (nL := 3) (ret := (some .int)) (own := RX5) [(0, .ref h)] (by decide) rfl rfl (Nat.le_of_ble_eq_true rfl) rfl rfl ?_
  intro pX eX sX mX bX tX cX A cx
  refine g_iconst cx dX5_many_0 kc_i0 ?_
  refine g_istore_n (lv' := [(1, .int (nI 0)), (0, .ref h)]) cx dX5_many_1 rfl (by decide) rfl ?_
  refine g_iconst cx dX5_many_2 kc_i0 ?_
  refine g_istore_n (lv' := [(2, .int (nI 0)), (1, .int (nI 0)), (0, .ref h)]) cx dX5_many_3 rfl (by decide) rfl ?_
  have L4 : ∀ (n_ : Nat) (i : Nat) (x : Nat), 64 - i < n_ → x = mny er va i → i ≤ 64 → gG pX l eX ({ frames := 1, cells := 0, slots := 0, locals := 21 } : Room) sX mX ([.ref h] : List Value).toArray bX tX cX 3 E A (MQ bX (gQ E [(h, .inr (5, [.ref an, .ref ap_, .ref asl, .ref ah, .int (nI hN), .ref ax, .int (nI tyN), .int th, .int (nI at_), .ref atd, .int (nI tlN), .ref av, .ref ae, .int go])), (an, .inl (E.2.1 0, 67, .inl nw)), (ap_, .inl (E.2.1 0, 402, .inl ps)), (asl, .inl (E.2.1 0, 134, .inl sl)), (ah, .inl (E.2.1 0, 2, .inl hsl)), (ax, .inl (E.2.1 0, 80, .inl (fun j => nI (T j)))), (atd, .inl (E.2.1 0, 123, .inl td)), (av, .inl (E.2.1 0, 64, .inl va)), (ae, .inl (E.2.1 0, 64, .inl er))] (some (.int (nI (mny er va 64)))) A) ([.ref h] : List Value).toArray sX 0 0 A) 0 0 [(h, .inr (5, [.ref an, .ref ap_, .ref asl, .ref ah, .int (nI hN), .ref ax, .int (nI tyN), .int th, .int (nI at_), .ref atd, .int (nI tlN), .ref av, .ref ae, .int go])), (an, .inl (E.2.1 0, 67, .inl nw)), (ap_, .inl (E.2.1 0, 402, .inl ps)), (asl, .inl (E.2.1 0, 134, .inl sl)), (ah, .inl (E.2.1 0, 2, .inl hsl)), (ax, .inl (E.2.1 0, 80, .inl (fun j => nI (T j)))), (atd, .inl (E.2.1 0, 123, .inl td)), (av, .inl (E.2.1 0, 64, .inl va)), (ae, .inl (E.2.1 0, 64, .inl er))] [(0, .ref h), (1, .int (nI x)), (2, .int (nI i))] [] 4 := by
    intro n_
    induction n_ with
    | zero => intro i x hm_; exact absurd hm_ (Nat.not_lt_zero _)
    | succ n_ ih_L4 =>
      intro i x hm_ e_x hi
      subst e_x
      refine g_iload_n cx dX5_many_4 rfl ?_
      refine g_bipush cx dX5_many_5 kc_b64 ?_
      refine g_icmp_ge (tgt := 32) cx dX5_many_7 (by decide) (fun z1 => ?_) (fun z1 => ?_)
      ·
        have z1 := gn_le (a := 64) (b := i) (by omega) (by omega) z1
        obtain rfl : i = 64 := by omega
        refine g_iload_n cx dX5_many_32 rfl ?_
        exact g_iretE cx dX5_many_33 (rfl) (rfl)
      ·
        have z1 := gn_nle (a := 64) (b := i) (by omega) (by omega) z1
        refine g_iload_n cx dX5_many_10 rfl ?_
        refine g_aload_n cx dX5_many_11 rfl ?_
        refine g_iload_n cx dX5_many_12 rfl ?_
        refine g_callV (ws' := [(h, .inr (5, [.ref an, .ref ap_, .ref asl, .ref ah, .int (nI hN), .ref ax, .int (nI tyN), .int th, .int (nI at_), .ref atd, .int (nI tlN), .ref av, .ref ae, .int go])), (an, .inl (E.2.1 0, 67, .inl nw)), (ap_, .inl (E.2.1 0, 402, .inl ps)), (asl, .inl (E.2.1 0, 134, .inl sl)), (ah, .inl (E.2.1 0, 2, .inl hsl)), (ax, .inl (E.2.1 0, 80, .inl (fun j => nI (T j)))), (atd, .inl (E.2.1 0, 123, .inl td)), (av, .inl (E.2.1 0, 64, .inl va)), (ae, .inl (E.2.1 0, 64, .inl er))]) (As := [.int (nI i)]) (rest := [.int (nI (mny er va i))]) (n := 1) (T := TX5) (N := 14) (ci := 5) cx (c_X5_flake l E h an ap_ asl ah ax atd av ae nw ps sl hsl td va er T hN tyN at_ tlN th go i (by omega)) gX5_many_X5_flake rfl (by decide +kernel) rfl rfl ⟨Nat.le_of_ble_eq_true rfl, Nat.le_of_ble_eq_true rfl⟩ ⟨Nat.zero_le _, Nat.zero_le _⟩ [0, 1, 2, 3, 4, 5, 6, 7, 8] 0 rfl rfl (by decide) rfl rfl rfl rfl (Nat.le_of_ble_eq_true rfl) dX5_many_13 ?_
        refine g_if_eq (tgt := 23) cx dX5_many_16 (by decide) (fun z2 => ?_) (fun z2 => ?_)
        ·
          have z2 := gB_eq0 z2
          refine g_iconst cx dX5_many_23 kc_i0 ?_
          refine g_iadd cx dX5_many_24 ?_
          refine g_top (nI_add (mny er va i) 0) ?_
          refine g_istore_n (lv' := [(1, .int (nI ((mny er va i) + 0))), (0, .ref h), (2, .int (nI i))]) cx dX5_many_25 rfl (by decide) rfl ?_
          refine g_iinc (lv' := [(2, .int (nI (i + 1))), (1, .int (nI ((mny er va i) + 0))), (0, .ref h)]) (k := 2) cx dX5_many_26 rfl (gn_inc1 i) (by decide) rfl ?_
          refine g_goto (tgt := 4) cx dX5_many_29 (by decide) ?_
          refine g_lv [2, 1, 0] rfl ?_
          exact ih_L4 (i + 1) ((mny er va i) + 0) (by omega) (by first | exact (mny_t (by assumption)).symm | exact (mny_f (by assumption)).symm) (by omega)
        ·
          have z2 := gB_ne0 z2
          refine g_iconst cx dX5_many_19 kc_i1 ?_
          refine g_goto (tgt := 24) cx dX5_many_20 (by decide) ?_
          refine g_iadd cx dX5_many_24 ?_
          refine g_top (nI_add (mny er va i) 1) ?_
          refine g_istore_n (lv' := [(1, .int (nI ((mny er va i) + 1))), (0, .ref h), (2, .int (nI i))]) cx dX5_many_25 rfl (by decide) rfl ?_
          refine g_iinc (lv' := [(2, .int (nI (i + 1))), (1, .int (nI ((mny er va i) + 1))), (0, .ref h)]) (k := 2) cx dX5_many_26 rfl (gn_inc1 i) (by decide) rfl ?_
          refine g_goto (tgt := 4) cx dX5_many_29 (by decide) ?_
          refine g_lv [2, 1, 0] rfl ?_
          exact ih_L4 (i + 1) ((mny er va i) + 1) (by omega) (by first | exact (mny_t (by assumption)).symm | exact (mny_f (by assumption)).symm) (by omega)
  refine g_lv [2, 1, 0] rfl ?_
  exact L4 (64 - 0 + 1) 0 0 (by omega) rfl (by omega)
set_option maxRecDepth 100000 in
set_option maxHeartbeats 4000000 in
theorem c_X5_off (l : Launch) (E : gEnv) (h : Nat) (an : Nat) (ap_ : Nat) (asl : Nat) (ah : Nat) (ax : Nat) (atd : Nat) (av : Nat) (ae : Nat) (nw : Nat → Int32) (ps : Nat → Int32) (sl : Nat → Int32) (hsl : Nat → Int32) (td : Nat → Int32) (va : Nat → Int32) (er : Nat → Int32) (T : Nat → Nat) (hN : Nat) (tyN : Nat) (at_ : Nat) (tlN : Nat) (th : Int32) (go : Int32) (q : Nat) (hq : q < 16) : gM l yX5_off wsX5_off ({ frames := 1, cells := 0, slots := 0, locals := 21 } : Room) E [.ref h, .int (nI q)] [(h, .inr (5, [.ref an, .ref ap_, .ref asl, .ref ah, .int (nI hN), .ref ax, .int (nI tyN), .int th, .int (nI at_), .ref atd, .int (nI tlN), .ref av, .ref ae, .int go])), (an, .inl (E.2.1 0, 67, .inl nw)), (ap_, .inl (E.2.1 0, 402, .inl ps)), (asl, .inl (E.2.1 0, 134, .inl sl)), (ah, .inl (E.2.1 0, 2, .inl hsl)), (ax, .inl (E.2.1 0, 80, .inl (fun j => nI (T j)))), (atd, .inl (E.2.1 0, 123, .inl td)), (av, .inl (E.2.1 0, 64, .inl va)), (ae, .inl (E.2.1 0, 64, .inl er))] [(h, .inr (5, [.ref an, .ref ap_, .ref asl, .ref ah, .int (nI hN), .ref ax, .int (nI tyN), .int th, .int (nI at_), .ref atd, .int (nI tlN), .ref av, .ref ae, .int go])), (an, .inl (E.2.1 0, 67, .inl nw)), (ap_, .inl (E.2.1 0, 402, .inl ps)), (asl, .inl (E.2.1 0, 134, .inl sl)), (ah, .inl (E.2.1 0, 2, .inl hsl)), (ax, .inl (E.2.1 0, 80, .inl (fun j => nI (T j)))), (atd, .inl (E.2.1 0, 123, .inl td)), (av, .inl (E.2.1 0, 64, .inl va)), (ae, .inl (E.2.1 0, 64, .inl er))] (some (.int (nab (ofs nw er va q 4)))) := by
  refine gM.ofG (cc := cX5_off) (nL := 5) (ret := (some .int)) (own := RX5) [(0, .ref h), (1, .int (nI q))] (by decide) rfl rfl (Nat.le_of_ble_eq_true rfl) rfl rfl ?_
  intro pX eX sX mX bX tX cX A cx
  have hiX5 : ∀ w ∈ u_ws RX5 TX5 14, w ∈ wsX5_off := by decide +kernel
  refine g_iconst cx dX5_off_0 kc_i0 ?_
  refine g_istore_n (lv' := [(2, .int (nI 0)), (0, .ref h), (1, .int (nI q))]) cx dX5_off_1 rfl (by decide) rfl ?_
  refine g_iconst cx dX5_off_2 kc_i0 ?_
  refine g_istore_n (lv' := [(3, .int (nI 0)), (2, .int (nI 0)), (0, .ref h), (1, .int (nI q))]) cx dX5_off_3 rfl (by decide) rfl ?_
  have L4 : ∀ (n_ : Nat) (k : Nat) (x : Int32), 4 - k < n_ → x = ofs nw er va q k → k ≤ 4 → gG pX l eX ({ frames := 1, cells := 0, slots := 0, locals := 21 } : Room) sX mX ([.ref h, .int (nI q)] : List Value).toArray bX tX cX 5 E A (MQ bX (gQ E [(h, .inr (5, [.ref an, .ref ap_, .ref asl, .ref ah, .int (nI hN), .ref ax, .int (nI tyN), .int th, .int (nI at_), .ref atd, .int (nI tlN), .ref av, .ref ae, .int go])), (an, .inl (E.2.1 0, 67, .inl nw)), (ap_, .inl (E.2.1 0, 402, .inl ps)), (asl, .inl (E.2.1 0, 134, .inl sl)), (ah, .inl (E.2.1 0, 2, .inl hsl)), (ax, .inl (E.2.1 0, 80, .inl (fun j => nI (T j)))), (atd, .inl (E.2.1 0, 123, .inl td)), (av, .inl (E.2.1 0, 64, .inl va)), (ae, .inl (E.2.1 0, 64, .inl er))] (some (.int (nab (ofs nw er va q 4)))) A) ([.ref h, .int (nI q)] : List Value).toArray sX 0 0 A) 0 0 [(h, .inr (5, [.ref an, .ref ap_, .ref asl, .ref ah, .int (nI hN), .ref ax, .int (nI tyN), .int th, .int (nI at_), .ref atd, .int (nI tlN), .ref av, .ref ae, .int go])), (an, .inl (E.2.1 0, 67, .inl nw)), (ap_, .inl (E.2.1 0, 402, .inl ps)), (asl, .inl (E.2.1 0, 134, .inl sl)), (ah, .inl (E.2.1 0, 2, .inl hsl)), (ax, .inl (E.2.1 0, 80, .inl (fun j => nI (T j)))), (atd, .inl (E.2.1 0, 123, .inl td)), (av, .inl (E.2.1 0, 64, .inl va)), (ae, .inl (E.2.1 0, 64, .inl er))] [(0, .ref h), (1, .int (nI q)), (2, .int x), (3, .int (nI k))] [] 4 := by
    intro n_
    induction n_ with
    | zero => intro k x hm_; exact absurd hm_ (Nat.not_lt_zero _)
    | succ n_ ih_L4 =>
      intro k x hm_ e_x hk
      subst e_x
      refine g_iload_n cx dX5_off_4 rfl ?_
      refine g_iconst cx dX5_off_5 kc_i4 ?_
      refine g_icmp_ge (tgt := 66) cx dX5_off_6 (by decide) (fun z1 => ?_) (fun z1 => ?_)
      ·
        have z1 := gn_le (a := 4) (b := k) (by omega) (by omega) z1
        obtain rfl : k = 4 := by omega
        refine g_iload_n cx dX5_off_66 rfl ?_
        refine g_if_ge (tgt := 75) cx dX5_off_67 (by decide) (fun z2 => ?_) (fun z2 => ?_)
        ·
          have z2 := gj0_le z2
          refine g_iload_n cx dX5_off_75 rfl ?_
          exact g_iretE cx dX5_off_76 (rfl) (by unfold nab; first | exact (if_pos (Int32.le_iff_toInt_le.mpr (by assumption))).symm | exact (if_neg (fun z => by have z := Int32.le_iff_toInt_le.mp z; have z : 0 ≤ (ofs nw er va q 4).toInt := z; omega)).symm)
        ·
          have z2 := gj0_nle z2
          refine g_iload_n cx dX5_off_70 rfl ?_
          refine g_ineg cx dX5_off_71 ?_
          refine g_goto (tgt := 76) cx dX5_off_72 (by decide) ?_
          exact g_iretE cx dX5_off_76 (rfl) (by unfold nab; first | exact (if_pos (Int32.le_iff_toInt_le.mpr (by assumption))).symm | exact (if_neg (fun z => by have z := Int32.le_iff_toInt_le.mp z; have z : 0 ≤ (ofs nw er va q 4).toInt := z; omega)).symm)
      ·
        have z1 := gn_nle (a := 4) (b := k) (by omega) (by omega) z1
        refine g_bipush cx dX5_off_9 kc_b8 ?_
        refine g_iconst cx dX5_off_11 kc_i2 ?_
        refine g_iload_n cx dX5_off_12 rfl ?_
        refine g_iconst cx dX5_off_13 kc_i4 ?_
        refine g_idiv cx dX5_off_14 (by decide) ?_
        refine g_top (pk_div (a := q) (d := 4) (by omega) (by omega) (by omega)) ?_
        refine g_imul cx dX5_off_15 ?_
        refine g_top (pk_mul 2 (q / 4)) ?_
        refine g_iload_n cx dX5_off_16 rfl ?_
        refine g_iconst cx dX5_off_17 kc_i2 ?_
        refine g_idiv cx dX5_off_18 (by decide) ?_
        refine g_top (pk_div (a := k) (d := 2) (by omega) (by omega) (by omega)) ?_
        refine g_iadd cx dX5_off_19 ?_
        refine g_top (nI_add (2 * (q / 4)) (k / 2)) ?_
        refine g_imul cx dX5_off_20 ?_
        refine g_top (pk_mul 8 ((2 * (q / 4)) + (k / 2))) ?_
        refine g_iconst cx dX5_off_21 kc_i2 ?_
        refine g_iload_n cx dX5_off_22 rfl ?_
        refine g_iconst cx dX5_off_23 kc_i4 ?_
        refine g_irem cx dX5_off_24 (by decide) ?_
        refine g_top (pk_rem (a := q) (d := 4) (by omega) (by omega) (by omega)) ?_
        refine g_imul cx dX5_off_25 ?_
        refine g_top (pk_mul 2 (q % 4)) ?_
        refine g_iadd cx dX5_off_26 ?_
        refine g_top (nI_add (8 * ((2 * (q / 4)) + (k / 2))) (2 * (q % 4))) ?_
        refine g_iload_n cx dX5_off_27 rfl ?_
        refine g_iconst cx dX5_off_28 kc_i2 ?_
        refine g_irem cx dX5_off_29 (by decide) ?_
        refine g_top (pk_rem (a := k) (d := 2) (by omega) (by omega) (by omega)) ?_
        refine g_iadd cx dX5_off_30 ?_
        refine g_top (nI_add ((8 * ((2 * (q / 4)) + (k / 2))) + (2 * (q % 4))) (k % 2)) ?_
        refine g_istore (lv' := [(4, .int (nI (((8 * ((2 * (q / 4)) + (k / 2))) + (2 * (q % 4))) + (k % 2)))), (0, .ref h), (1, .int (nI q)), (2, .int (ofs nw er va q k)), (3, .int (nI k))]) cx dX5_off_31 (by decide) rfl ?_
        refine g_iload_n cx dX5_off_33 rfl ?_
        refine g_aload_n cx dX5_off_34 rfl ?_
        refine g_get (C := RX5) (T := TX5) (N := 14) (ci := 5) cx hiX5 0 0 (by decide) rfl (by decide +kernel) rfl rfl dX5_off_35 ?_
        refine g_iload cx dX5_off_38 rfl ?_
        refine g_iald cx 1 rfl rfl (vp_in_nI (by omega) (by omega)) (congrArg _ (nI_clamp (by omega))) dX5_off_40 ?_
        refine g_aload_n cx dX5_off_41 rfl ?_
        refine g_iload cx dX5_off_42 rfl ?_
        refine g_callV (ws' := [(h, .inr (5, [.ref an, .ref ap_, .ref asl, .ref ah, .int (nI hN), .ref ax, .int (nI tyN), .int th, .int (nI at_), .ref atd, .int (nI tlN), .ref av, .ref ae, .int go])), (an, .inl (E.2.1 0, 67, .inl nw)), (ap_, .inl (E.2.1 0, 402, .inl ps)), (asl, .inl (E.2.1 0, 134, .inl sl)), (ah, .inl (E.2.1 0, 2, .inl hsl)), (ax, .inl (E.2.1 0, 80, .inl (fun j => nI (T j)))), (atd, .inl (E.2.1 0, 123, .inl td)), (av, .inl (E.2.1 0, 64, .inl va)), (ae, .inl (E.2.1 0, 64, .inl er))]) (As := [.int (nI (((8 * ((2 * (q / 4)) + (k / 2))) + (2 * (q % 4))) + (k % 2)))]) (rest := [.int (nw (((8 * ((2 * (q / 4)) + (k / 2))) + (2 * (q % 4))) + (k % 2))), .int (ofs nw er va q k)]) (n := 1) (T := TX5) (N := 14) (ci := 5) cx (c_X5_flake l E h an ap_ asl ah ax atd av ae nw ps sl hsl td va er T hN tyN at_ tlN th go (((8 * ((2 * (q / 4)) + (k / 2))) + (2 * (q % 4))) + (k % 2)) (by omega)) gX5_off_X5_flake rfl (by decide +kernel) rfl rfl ⟨Nat.le_of_ble_eq_true rfl, Nat.le_of_ble_eq_true rfl⟩ ⟨Nat.zero_le _, Nat.zero_le _⟩ [0, 1, 2, 3, 4, 5, 6, 7, 8] 0 rfl rfl (by decide) rfl rfl rfl rfl (Nat.le_of_ble_eq_true rfl) dX5_off_44 ?_
        refine g_if_eq (tgt := 56) cx dX5_off_47 (by decide) (fun z3 => ?_) (fun z3 => ?_)
        ·
          have z3 := gB_eq0 z3
          refine g_iconst cx dX5_off_56 kc_i0 ?_
          refine g_isub cx dX5_off_57 ?_
          refine g_iadd cx dX5_off_58 ?_
          refine g_istore_n (lv' := [(2, .int ((ofs nw er va q k) + ((nw (((8 * ((2 * (q / 4)) + (k / 2))) + (2 * (q % 4))) + (k % 2))) - (nI 0)))), (4, .int (nI (((8 * ((2 * (q / 4)) + (k / 2))) + (2 * (q % 4))) + (k % 2)))), (0, .ref h), (1, .int (nI q)), (3, .int (nI k))]) cx dX5_off_59 rfl (by decide) rfl ?_
          refine g_iinc (lv' := [(3, .int (nI (k + 1))), (2, .int ((ofs nw er va q k) + ((nw (((8 * ((2 * (q / 4)) + (k / 2))) + (2 * (q % 4))) + (k % 2))) - (nI 0)))), (4, .int (nI (((8 * ((2 * (q / 4)) + (k / 2))) + (2 * (q % 4))) + (k % 2)))), (0, .ref h), (1, .int (nI q))]) (k := 4) cx dX5_off_60 rfl (gn_inc1 k) (by decide) rfl ?_
          refine g_goto (tgt := 4) cx dX5_off_63 (by decide) ?_
          refine g_lv [3, 4, 1, 0] rfl ?_
          exact ih_L4 (k + 1) ((ofs nw er va q k) + ((nw (((8 * ((2 * (q / 4)) + (k / 2))) + (2 * (q % 4))) + (k % 2))) - (nI 0))) (by omega) (by first | exact ofs_t (by assumption) | exact ofs_f (by assumption)) (by omega)
        ·
          have z3 := gB_ne0 z3
          refine g_sipush cx dX5_off_50 kc_s255 ?_
          refine g_goto (tgt := 57) cx dX5_off_53 (by decide) ?_
          refine g_isub cx dX5_off_57 ?_
          refine g_iadd cx dX5_off_58 ?_
          refine g_istore_n (lv' := [(2, .int ((ofs nw er va q k) + ((nw (((8 * ((2 * (q / 4)) + (k / 2))) + (2 * (q % 4))) + (k % 2))) - (nI 255)))), (4, .int (nI (((8 * ((2 * (q / 4)) + (k / 2))) + (2 * (q % 4))) + (k % 2)))), (0, .ref h), (1, .int (nI q)), (3, .int (nI k))]) cx dX5_off_59 rfl (by decide) rfl ?_
          refine g_iinc (lv' := [(3, .int (nI (k + 1))), (2, .int ((ofs nw er va q k) + ((nw (((8 * ((2 * (q / 4)) + (k / 2))) + (2 * (q % 4))) + (k % 2))) - (nI 255)))), (4, .int (nI (((8 * ((2 * (q / 4)) + (k / 2))) + (2 * (q % 4))) + (k % 2)))), (0, .ref h), (1, .int (nI q))]) (k := 4) cx dX5_off_60 rfl (gn_inc1 k) (by decide) rfl ?_
          refine g_goto (tgt := 4) cx dX5_off_63 (by decide) ?_
          refine g_lv [3, 4, 1, 0] rfl ?_
          exact ih_L4 (k + 1) ((ofs nw er va q k) + ((nw (((8 * ((2 * (q / 4)) + (k / 2))) + (2 * (q % 4))) + (k % 2))) - (nI 255))) (by omega) (by first | exact ofs_t (by assumption) | exact ofs_f (by assumption)) (by omega)
  refine g_lv [2, 3, 1, 0] rfl ?_
  exact L4 (4 - 0 + 1) 0 (nI 0) (by omega) rfl (by omega)
set_option maxRecDepth 100000 in
set_option maxHeartbeats 4000000 in
theorem c_X5_allOff (l : Launch) (E : gEnv) (h : Nat) (an : Nat) (ap_ : Nat) (asl : Nat) (ah : Nat) (ax : Nat) (atd : Nat) (av : Nat) (ae : Nat) (nw : Nat → Int32) (ps : Nat → Int32) (sl : Nat → Int32) (hsl : Nat → Int32) (td : Nat → Int32) (va : Nat → Int32) (er : Nat → Int32) (T : Nat → Nat) (hN : Nat) (tyN : Nat) (at_ : Nat) (tlN : Nat) (th : Int32) (go : Int32)  : gM l yX5_allOff wsX5_allOff ({ frames := 2, cells := 0, slots := 0, locals := 45 } : Room) E [.ref h] [(h, .inr (5, [.ref an, .ref ap_, .ref asl, .ref ah, .int (nI hN), .ref ax, .int (nI tyN), .int th, .int (nI at_), .ref atd, .int (nI tlN), .ref av, .ref ae, .int go])), (an, .inl (E.2.1 0, 67, .inl nw)), (ap_, .inl (E.2.1 0, 402, .inl ps)), (asl, .inl (E.2.1 0, 134, .inl sl)), (ah, .inl (E.2.1 0, 2, .inl hsl)), (ax, .inl (E.2.1 0, 80, .inl (fun j => nI (T j)))), (atd, .inl (E.2.1 0, 123, .inl td)), (av, .inl (E.2.1 0, 64, .inl va)), (ae, .inl (E.2.1 0, 64, .inl er))] [(h, .inr (5, [.ref an, .ref ap_, .ref asl, .ref ah, .int (nI hN), .ref ax, .int (nI tyN), .int th, .int (nI at_), .ref atd, .int (nI tlN), .ref av, .ref ae, .int go])), (an, .inl (E.2.1 0, 67, .inl nw)), (ap_, .inl (E.2.1 0, 402, .inl ps)), (asl, .inl (E.2.1 0, 134, .inl sl)), (ah, .inl (E.2.1 0, 2, .inl hsl)), (ax, .inl (E.2.1 0, 80, .inl (fun j => nI (T j)))), (atd, .inl (E.2.1 0, 123, .inl td)), (av, .inl (E.2.1 0, 64, .inl va)), (ae, .inl (E.2.1 0, 64, .inl er))] (some (.int (aof nw er va 16))) := by
  refine gM.ofG (cc := cX5_allOff) (nL := 3) (ret := (some .int)) (own := RX5) [(0, .ref h)] (by decide) rfl rfl (Nat.le_of_ble_eq_true rfl) rfl rfl ?_
  intro pX eX sX mX bX tX cX A cx
  refine g_iconst cx dX5_allOff_0 kc_i0 ?_
  refine g_istore_n (lv' := [(1, .int (nI 0)), (0, .ref h)]) cx dX5_allOff_1 rfl (by decide) rfl ?_
  refine g_iconst cx dX5_allOff_2 kc_i0 ?_
  refine g_istore_n (lv' := [(2, .int (nI 0)), (1, .int (nI 0)), (0, .ref h)]) cx dX5_allOff_3 rfl (by decide) rfl ?_
  have L4 : ∀ (n_ : Nat) (i : Nat) (x : Int32), 16 - i < n_ → x = aof nw er va i → i ≤ 16 → gG pX l eX ({ frames := 2, cells := 0, slots := 0, locals := 45 } : Room) sX mX ([.ref h] : List Value).toArray bX tX cX 3 E A (MQ bX (gQ E [(h, .inr (5, [.ref an, .ref ap_, .ref asl, .ref ah, .int (nI hN), .ref ax, .int (nI tyN), .int th, .int (nI at_), .ref atd, .int (nI tlN), .ref av, .ref ae, .int go])), (an, .inl (E.2.1 0, 67, .inl nw)), (ap_, .inl (E.2.1 0, 402, .inl ps)), (asl, .inl (E.2.1 0, 134, .inl sl)), (ah, .inl (E.2.1 0, 2, .inl hsl)), (ax, .inl (E.2.1 0, 80, .inl (fun j => nI (T j)))), (atd, .inl (E.2.1 0, 123, .inl td)), (av, .inl (E.2.1 0, 64, .inl va)), (ae, .inl (E.2.1 0, 64, .inl er))] (some (.int (aof nw er va 16))) A) ([.ref h] : List Value).toArray sX 0 0 A) 0 0 [(h, .inr (5, [.ref an, .ref ap_, .ref asl, .ref ah, .int (nI hN), .ref ax, .int (nI tyN), .int th, .int (nI at_), .ref atd, .int (nI tlN), .ref av, .ref ae, .int go])), (an, .inl (E.2.1 0, 67, .inl nw)), (ap_, .inl (E.2.1 0, 402, .inl ps)), (asl, .inl (E.2.1 0, 134, .inl sl)), (ah, .inl (E.2.1 0, 2, .inl hsl)), (ax, .inl (E.2.1 0, 80, .inl (fun j => nI (T j)))), (atd, .inl (E.2.1 0, 123, .inl td)), (av, .inl (E.2.1 0, 64, .inl va)), (ae, .inl (E.2.1 0, 64, .inl er))] [(0, .ref h), (1, .int x), (2, .int (nI i))] [] 4 := by
    intro n_
    induction n_ with
    | zero => intro i x hm_; exact absurd hm_ (Nat.not_lt_zero _)
    | succ n_ ih_L4 =>
      intro i x hm_ e_x hi
      subst e_x
      refine g_iload_n cx dX5_allOff_4 rfl ?_
      refine g_bipush cx dX5_allOff_5 kc_b16 ?_
      refine g_icmp_ge (tgt := 24) cx dX5_allOff_7 (by decide) (fun z1 => ?_) (fun z1 => ?_)
      ·
        have z1 := gn_le (a := 16) (b := i) (by omega) (by omega) z1
        obtain rfl : i = 16 := by omega
        refine g_iload_n cx dX5_allOff_24 rfl ?_
        exact g_iretE cx dX5_allOff_25 (rfl) (rfl)
      ·
        have z1 := gn_nle (a := 16) (b := i) (by omega) (by omega) z1
        refine g_iload_n cx dX5_allOff_10 rfl ?_
        refine g_aload_n cx dX5_allOff_11 rfl ?_
        refine g_iload_n cx dX5_allOff_12 rfl ?_
        refine g_callV (ws' := [(h, .inr (5, [.ref an, .ref ap_, .ref asl, .ref ah, .int (nI hN), .ref ax, .int (nI tyN), .int th, .int (nI at_), .ref atd, .int (nI tlN), .ref av, .ref ae, .int go])), (an, .inl (E.2.1 0, 67, .inl nw)), (ap_, .inl (E.2.1 0, 402, .inl ps)), (asl, .inl (E.2.1 0, 134, .inl sl)), (ah, .inl (E.2.1 0, 2, .inl hsl)), (ax, .inl (E.2.1 0, 80, .inl (fun j => nI (T j)))), (atd, .inl (E.2.1 0, 123, .inl td)), (av, .inl (E.2.1 0, 64, .inl va)), (ae, .inl (E.2.1 0, 64, .inl er))]) (As := [.int (nI i)]) (rest := [.int (aof nw er va i)]) (n := 1) (T := TX5) (N := 14) (ci := 5) cx (c_X5_off l E h an ap_ asl ah ax atd av ae nw ps sl hsl td va er T hN tyN at_ tlN th go i (by omega)) gX5_allOff_X5_off rfl (by decide +kernel) rfl rfl ⟨Nat.le_of_ble_eq_true rfl, Nat.le_of_ble_eq_true rfl⟩ ⟨Nat.zero_le _, Nat.zero_le _⟩ [0, 1, 2, 3, 4, 5, 6, 7, 8] 0 rfl rfl (by decide) rfl rfl rfl rfl (Nat.le_of_ble_eq_true rfl) dX5_allOff_13 ?_
        refine g_iadd cx dX5_allOff_16 ?_
        refine g_istore_n (lv' := [(1, .int ((aof nw er va i) + (nab (ofs nw er va i 4)))), (0, .ref h), (2, .int (nI i))]) cx dX5_allOff_17 rfl (by decide) rfl ?_
        refine g_iinc (lv' := [(2, .int (nI (i + 1))), (1, .int ((aof nw er va i) + (nab (ofs nw er va i 4)))), (0, .ref h)]) (k := 2) cx dX5_allOff_18 rfl (gn_inc1 i) (by decide) rfl ?_
        refine g_goto (tgt := 4) cx dX5_allOff_21 (by decide) ?_
        refine g_lv [2, 1, 0] rfl ?_
        exact ih_L4 (i + 1) ((aof nw er va i) + (nab (ofs nw er va i 4))) (by omega) rfl (by omega)
  refine g_lv [2, 1, 0] rfl ?_
  exact L4 (16 - 0 + 1) 0 (nI 0) (by omega) rfl (by omega)
set_option maxRecDepth 100000 in
set_option maxHeartbeats 4000000 in
theorem c_X5_sum (l : Launch) (E : gEnv) (h : Nat) (an : Nat) (ap_ : Nat) (asl : Nat) (ah : Nat) (ax : Nat) (atd : Nat) (av : Nat) (ae : Nat) (nw : Nat → Int32) (ps : Nat → Int32) (sl : Nat → Int32) (hsl : Nat → Int32) (td : Nat → Int32) (va : Nat → Int32) (er : Nat → Int32) (T : Nat → Nat) (hN : Nat) (tyN : Nat) (at_ : Nat) (tlN : Nat) (th : Int32) (go : Int32)  : gM l yX5_sum wsX5_sum ({ frames := 0, cells := 0, slots := 0, locals := 0 } : Room) E [.ref h] [(h, .inr (5, [.ref an, .ref ap_, .ref asl, .ref ah, .int (nI hN), .ref ax, .int (nI tyN), .int th, .int (nI at_), .ref atd, .int (nI tlN), .ref av, .ref ae, .int go])), (an, .inl (E.2.1 0, 67, .inl nw)), (ap_, .inl (E.2.1 0, 402, .inl ps)), (asl, .inl (E.2.1 0, 134, .inl sl)), (ah, .inl (E.2.1 0, 2, .inl hsl)), (ax, .inl (E.2.1 0, 80, .inl (fun j => nI (T j)))), (atd, .inl (E.2.1 0, 123, .inl td)), (av, .inl (E.2.1 0, 64, .inl va)), (ae, .inl (E.2.1 0, 64, .inl er))] [(h, .inr (5, [.ref an, .ref ap_, .ref asl, .ref ah, .int (nI hN), .ref ax, .int (nI tyN), .int th, .int (nI at_), .ref atd, .int (nI tlN), .ref av, .ref ae, .int go])), (an, .inl (E.2.1 0, 67, .inl nw)), (ap_, .inl (E.2.1 0, 402, .inl ps)), (asl, .inl (E.2.1 0, 134, .inl sl)), (ah, .inl (E.2.1 0, 2, .inl hsl)), (ax, .inl (E.2.1 0, 80, .inl (fun j => nI (T j)))), (atd, .inl (E.2.1 0, 123, .inl td)), (av, .inl (E.2.1 0, 64, .inl va)), (ae, .inl (E.2.1 0, 64, .inl er))] (some (.int (isum nw 64))) := by
  refine gM.ofG (cc := cX5_sum) (nL := 3) (ret := (some .int)) (own := RX5) [(0, .ref h)] (by decide) rfl rfl (Nat.le_of_ble_eq_true rfl) rfl rfl ?_
  intro pX eX sX mX bX tX cX A cx
  have hiX5 : ∀ w ∈ u_ws RX5 TX5 14, w ∈ wsX5_sum := by decide +kernel
  refine g_iconst cx dX5_sum_0 kc_i0 ?_
  refine g_istore_n (lv' := [(1, .int (nI 0)), (0, .ref h)]) cx dX5_sum_1 rfl (by decide) rfl ?_
  refine g_iconst cx dX5_sum_2 kc_i0 ?_
  refine g_istore_n (lv' := [(2, .int (nI 0)), (1, .int (nI 0)), (0, .ref h)]) cx dX5_sum_3 rfl (by decide) rfl ?_
  have L4 : ∀ (n_ : Nat) (i : Nat) (x : Int32), 64 - i < n_ → x = isum nw i → i ≤ 64 → gG pX l eX ({ frames := 0, cells := 0, slots := 0, locals := 0 } : Room) sX mX ([.ref h] : List Value).toArray bX tX cX 3 E A (MQ bX (gQ E [(h, .inr (5, [.ref an, .ref ap_, .ref asl, .ref ah, .int (nI hN), .ref ax, .int (nI tyN), .int th, .int (nI at_), .ref atd, .int (nI tlN), .ref av, .ref ae, .int go])), (an, .inl (E.2.1 0, 67, .inl nw)), (ap_, .inl (E.2.1 0, 402, .inl ps)), (asl, .inl (E.2.1 0, 134, .inl sl)), (ah, .inl (E.2.1 0, 2, .inl hsl)), (ax, .inl (E.2.1 0, 80, .inl (fun j => nI (T j)))), (atd, .inl (E.2.1 0, 123, .inl td)), (av, .inl (E.2.1 0, 64, .inl va)), (ae, .inl (E.2.1 0, 64, .inl er))] (some (.int (isum nw 64))) A) ([.ref h] : List Value).toArray sX 0 0 A) 0 0 [(h, .inr (5, [.ref an, .ref ap_, .ref asl, .ref ah, .int (nI hN), .ref ax, .int (nI tyN), .int th, .int (nI at_), .ref atd, .int (nI tlN), .ref av, .ref ae, .int go])), (an, .inl (E.2.1 0, 67, .inl nw)), (ap_, .inl (E.2.1 0, 402, .inl ps)), (asl, .inl (E.2.1 0, 134, .inl sl)), (ah, .inl (E.2.1 0, 2, .inl hsl)), (ax, .inl (E.2.1 0, 80, .inl (fun j => nI (T j)))), (atd, .inl (E.2.1 0, 123, .inl td)), (av, .inl (E.2.1 0, 64, .inl va)), (ae, .inl (E.2.1 0, 64, .inl er))] [(0, .ref h), (1, .int x), (2, .int (nI i))] [] 4 := by
    intro n_
    induction n_ with
    | zero => intro i x hm_; exact absurd hm_ (Nat.not_lt_zero _)
    | succ n_ ih_L4 =>
      intro i x hm_ e_x hi
      subst e_x
      refine g_iload_n cx dX5_sum_4 rfl ?_
      refine g_bipush cx dX5_sum_5 kc_b64 ?_
      refine g_icmp_ge (tgt := 25) cx dX5_sum_7 (by decide) (fun z1 => ?_) (fun z1 => ?_)
      ·
        have z1 := gn_le (a := 64) (b := i) (by omega) (by omega) z1
        obtain rfl : i = 64 := by omega
        refine g_iload_n cx dX5_sum_25 rfl ?_
        exact g_iretE cx dX5_sum_26 (rfl) (rfl)
      ·
        have z1 := gn_nle (a := 64) (b := i) (by omega) (by omega) z1
        refine g_iload_n cx dX5_sum_10 rfl ?_
        refine g_aload_n cx dX5_sum_11 rfl ?_
        refine g_get (C := RX5) (T := TX5) (N := 14) (ci := 5) cx hiX5 0 0 (by decide) rfl (by decide +kernel) rfl rfl dX5_sum_12 ?_
        refine g_iload_n cx dX5_sum_15 rfl ?_
        refine g_iald cx 1 rfl rfl (vp_in_nI (by omega) (by omega)) (congrArg _ (nI_clamp (by omega))) dX5_sum_16 ?_
        refine g_iadd cx dX5_sum_17 ?_
        refine g_istore_n (lv' := [(1, .int ((isum nw i) + (nw i))), (0, .ref h), (2, .int (nI i))]) cx dX5_sum_18 rfl (by decide) rfl ?_
        refine g_iinc (lv' := [(2, .int (nI (i + 1))), (1, .int ((isum nw i) + (nw i))), (0, .ref h)]) (k := 2) cx dX5_sum_19 rfl (gn_inc1 i) (by decide) rfl ?_
        refine g_goto (tgt := 4) cx dX5_sum_22 (by decide) ?_
        refine g_lv [2, 1, 0] rfl ?_
        exact ih_L4 (i + 1) ((isum nw i) + (nw i)) (by omega) rfl (by omega)
  refine g_lv [2, 1, 0] rfl ?_
  exact L4 (64 - 0 + 1) 0 (nI 0) (by omega) rfl (by omega)
