set_option maxRecDepth 100000 in
set_option maxHeartbeats 4000000 in
theorem c_X2_decide (l : Launch) (E : gEnv) (h : Nat) (v : Nat) (er : Nat) (fv : Nat → Int32) (fe : Nat → Int32) (mk : Int64) (lo : Int32) (k : Nat) (thr : Int32) (hk : k < 64) : gM l yX2_decide wsX2_decide ({ frames := 0, cells := 0, slots := 0, locals := 0 } : Room) E [.ref h, .int (nI k), .int thr] [(h, .inr (2, [.ref v, .ref er, .long mk, .int lo])), (v, .inl (E.2.1 0, 64, .inl fv)), (er, .inl (E.2.1 0, 64, .inl fe))] [(h, .inr (2, [.ref v, .ref er, .long (mkk thr (fv k) k mk), .int lo])), (v, .inl (E.2.1 0, 64, .inl fv)), (er, .inl (E.2.1 0, 64, .inl (upd fe k (stp thr (fv k)))))] none := by
  refine gM.ofG (cc := cX2_decide) (nL := 3) (ret := none) (own := RX2) [(0, .ref h), (1, .int (nI k)), (2, .int thr)] (by decide) rfl rfl (Nat.le_of_ble_eq_true rfl) rfl rfl ?_
  intro pX eX sX mX bX tX cX A cx
  have hiX2 : ∀ w ∈ u_ws RX2 TX2 4, w ∈ wsX2_decide := by decide +kernel
  refine g_aload_n cx dX2_decide_0 rfl ?_
  refine g_get (C := RX2) (T := TX2) (N := 4) (ci := 2) cx hiX2 0 0 (by decide) rfl (by decide +kernel) rfl rfl dX2_decide_1 ?_
  refine g_iload_n cx dX2_decide_4 rfl ?_
  refine g_iald cx 1 rfl rfl (vp_in_nI (by omega) (by omega)) (congrArg _ (nI_clamp (by omega))) dX2_decide_5 ?_
  refine g_iload_n cx dX2_decide_6 rfl ?_
  refine g_icmp_lt (tgt := 41) cx dX2_decide_7 (by decide) (fun z1 => ?_) (fun z1 => ?_)
  ·
    refine g_aload_n cx dX2_decide_41 rfl ?_
    refine g_get (C := RX2) (T := TX2) (N := 4) (ci := 2) cx hiX2 0 1 (by decide) rfl (by decide +kernel) rfl rfl dX2_decide_42 ?_
    refine g_iload_n cx dX2_decide_45 rfl ?_
    refine g_aload_n cx dX2_decide_46 rfl ?_
    refine g_get (C := RX2) (T := TX2) (N := 4) (ci := 2) cx hiX2 0 0 (by decide) rfl (by decide +kernel) rfl rfl dX2_decide_47 ?_
    refine g_iload_n cx dX2_decide_50 rfl ?_
    refine g_iald cx 1 rfl rfl (vp_in_nI (by omega) (by omega)) (congrArg _ (nI_clamp (by omega))) dX2_decide_51 ?_
    refine g_iast (ws' := [(h, .inr (2, [.ref v, .ref er, .long mk, .int lo])), (v, .inl (E.2.1 0, 64, .inl fv)), (er, .inl (E.2.1 0, 64, .inl (upd fe k (fv k))))]) cx 2 rfl rfl (vp_in_nI (by omega) (by omega)) (by rw [nI_clamp (by omega)]; rfl) dX2_decide_52 ?_
    exact g_vretE cx dX2_decide_53 (by unfold mkk stp; first | rw [if_pos (by assumption), if_pos (by assumption)] | rw [if_neg (by assumption), if_neg (by assumption)])
  ·
    refine g_aload_n cx dX2_decide_10 rfl ?_
    refine g_dup cx dX2_decide_11 rfl ?_
    refine g_get (C := RX2) (T := TX2) (N := 4) (ci := 2) cx hiX2 0 2 (by decide) rfl (by decide +kernel) rfl rfl dX2_decide_12 ?_
    refine g_lconst (v := 1) cx dX2_decide_15 rfl ?_
    refine g_iload_n cx dX2_decide_16 rfl ?_
    refine g_lshl cx dX2_decide_17 rfl ?_
    refine g_lor cx dX2_decide_18 ?_
    refine g_put (ws' := [(h, .inr (2, [.ref v, .ref er, .long (mk ||| (1 <<< ((nI k).toInt64 &&& 63))), .int lo])), (v, .inl (E.2.1 0, 64, .inl fv)), (er, .inl (E.2.1 0, 64, .inl fe))]) (C := RX2) (T := TX2) (N := 4) (ci := 2) cx hiX2 tyX2 tyX2_ok nmX2 0 2 (by decide) rfl (by decide +kernel) rfl rfl rfl rfl rfl (Nat.le_of_ble_eq_true rfl) rfl dX2_decide_19 ?_
    refine g_aload_n cx dX2_decide_22 rfl ?_
    refine g_get (C := RX2) (T := TX2) (N := 4) (ci := 2) cx hiX2 0 1 (by decide) rfl (by decide +kernel) rfl rfl dX2_decide_23 ?_
    refine g_iload_n cx dX2_decide_26 rfl ?_
    refine g_aload_n cx dX2_decide_27 rfl ?_
    refine g_get (C := RX2) (T := TX2) (N := 4) (ci := 2) cx hiX2 0 0 (by decide) rfl (by decide +kernel) rfl rfl dX2_decide_28 ?_
    refine g_iload_n cx dX2_decide_31 rfl ?_
    refine g_iald cx 1 rfl rfl (vp_in_nI (by omega) (by omega)) (congrArg _ (nI_clamp (by omega))) dX2_decide_32 ?_
    refine g_sipush cx dX2_decide_33 kc_s255 ?_
    refine g_isub cx dX2_decide_36 ?_
    refine g_iast (ws' := [(h, .inr (2, [.ref v, .ref er, .long (mk ||| (1 <<< ((nI k).toInt64 &&& 63))), .int lo])), (v, .inl (E.2.1 0, 64, .inl fv)), (er, .inl (E.2.1 0, 64, .inl (upd fe k ((fv k) - (nI 255)))))]) cx 2 rfl rfl (vp_in_nI (by omega) (by omega)) (by rw [nI_clamp (by omega)]; rfl) dX2_decide_37 ?_
    refine g_goto (tgt := 53) cx dX2_decide_38 (by decide) ?_
    exact g_vretE cx dX2_decide_53 (by unfold mkk stp; first | rw [if_pos (by assumption), if_pos (by assumption)] | rw [if_neg (by assumption), if_neg (by assumption)])
set_option maxRecDepth 100000 in
set_option maxHeartbeats 4000000 in
theorem c_X2_handOn (l : Launch) (E : gEnv) (h : Nat) (v : Nat) (er : Nat) (fv : Nat → Int32) (fe : Nat → Int32) (mk : Int64) (lo : Int32) (q : Nat) (r : Nat) (d : Int32) (hq6 : q < 64) (hr : r < 4) (hd : d = -1 ∨ d = nI 1) : gM l yX2_handOn wsX2_handOn ({ frames := 2, cells := 0, slots := 0, locals := 44 } : Room) E [.ref h, .int (nI q), .int (nI r), .int d] [(h, .inr (2, [.ref v, .ref er, .long mk, .int lo])), (v, .inl (E.2.1 0, 64, .inl fv)), (er, .inl (E.2.1 0, 64, .inl fe))] [(h, .inr (2, [.ref v, .ref er, .long mk, .int ((hnd d r q (fe q) (cntR r) (fv, lo)).2)])), (v, .inl (E.2.1 0, 64, .inl ((hnd d r q (fe q) (cntR r) (fv, lo)).1))), (er, .inl (E.2.1 0, 64, .inl fe))] none := by
  refine gM.ofG (cc := cX2_handOn) (nL := 8) (ret := none) (own := RX2) [(0, .ref h), (1, .int (nI q)), (2, .int (nI r)), (3, .int d)] (by decide) rfl rfl (Nat.le_of_ble_eq_true rfl) rfl rfl ?_
  intro pX eX sX mX bX tX cX A cx
  have hiX2 : ∀ w ∈ u_ws RX2 TX2 4, w ∈ wsX2_handOn := by decide +kernel
  have hF := nF_f hr
  refine g_getsN cx cx.2.2.2.2.2.1.2.1.1 cx.2.2.2.2.2.1.2.2.1.1 dX2_handOn_0 ?_
  refine g_iload_n cx dX2_handOn_3 rfl ?_
  refine g_iconst cx dX2_handOn_4 kc_i1 ?_
  refine g_iadd cx dX2_handOn_5 ?_
  refine g_top (nI_add r 1) ?_
  refine g_ti cx cx.2.2.2.2.2.1.2.1.1 (vp_in_nI (by omega) (by omega)) ((congrArg zF (nI_clamp (by omega))).trans (zF_nat (by omega))) dX2_handOn_6 ?_
  refine g_istore (lv' := [(4, .int (nI (nF (r + 1)))), (0, .ref h), (1, .int (nI q)), (2, .int (nI r)), (3, .int d)]) cx dX2_handOn_7 (by decide) rfl ?_
  refine g_getsN cx cx.2.2.2.2.2.1.2.1.1 cx.2.2.2.2.2.1.2.2.1.1 dX2_handOn_9 ?_
  refine g_iload_n cx dX2_handOn_12 rfl ?_
  refine g_ti cx cx.2.2.2.2.2.1.2.1.1 (vp_in_nI (by omega) (by omega)) ((congrArg zF (nI_clamp (by omega))).trans (zF_nat (by omega))) dX2_handOn_13 ?_
  refine g_istore (lv' := [(5, .int (nI (nF r))), (4, .int (nI (nF (r + 1)))), (0, .ref h), (1, .int (nI q)), (2, .int (nI r)), (3, .int d)]) cx dX2_handOn_14 (by decide) rfl ?_
  have L16 : ∀ (n_ : Nat) (k : Nat) (g : Nat → Int32) (y : Int32), nF (r + 1) - nF r - k < n_ → g = (hnd d r q (fe q) k (fv, lo)).1 → y = (hnd d r q (fe q) k (fv, lo)).2 → nF r + k ≤ nF (r + 1) → gG pX l eX ({ frames := 2, cells := 0, slots := 0, locals := 44 } : Room) sX mX ([.ref h, .int (nI q), .int (nI r), .int d] : List Value).toArray bX tX cX 8 E A (MQ bX (gQ E [(h, .inr (2, [.ref v, .ref er, .long mk, .int ((hnd d r q (fe q) (cntR r) (fv, lo)).2)])), (v, .inl (E.2.1 0, 64, .inl ((hnd d r q (fe q) (cntR r) (fv, lo)).1))), (er, .inl (E.2.1 0, 64, .inl fe))] none A) ([.ref h, .int (nI q), .int (nI r), .int d] : List Value).toArray sX 0 0 A) 0 0 [(h, .inr (2, [.ref v, .ref er, .long mk, .int y])), (v, .inl (E.2.1 0, 64, .inl g)), (er, .inl (E.2.1 0, 64, .inl fe))] [(0, .ref h), (1, .int (nI q)), (2, .int (nI r)), (3, .int d), (4, .int (nI (nF (r + 1)))), (5, .int (nI (nF r + k)))] [] 16 := by
    intro n_
    induction n_ with
    | zero => intro k g y hm_; exact absurd hm_ (Nat.not_lt_zero _)
    | succ n_ ih_L16 =>
      intro k g y hm_ e_g e_y hk
      subst e_g
      subst e_y
      refine g_iload cx dX2_handOn_16 rfl ?_
      refine g_iload cx dX2_handOn_18 rfl ?_
      refine g_icmp_ge (tgt := 84) cx dX2_handOn_20 (by decide) (fun z1 => ?_) (fun z1 => ?_)
      ·
        have z1 := gn_le (a := nF (r + 1)) (b := nF r + k) (by omega) (by omega) z1
        exact g_vretE cx dX2_handOn_84 (by rw [show cntR r = k from by unfold cntR; omega])
      ·
        have z1 := gn_nle (a := nF (r + 1)) (b := nF r + k) (by omega) (by omega) z1
        refine g_aload_n cx dX2_handOn_23 rfl ?_
        refine g_get (C := RX2) (T := TX2) (N := 4) (ci := 2) cx hiX2 0 1 (by decide) rfl (by decide +kernel) rfl rfl dX2_handOn_24 ?_
        refine g_iload_n cx dX2_handOn_27 rfl ?_
        refine g_iald cx 2 rfl rfl (vp_in_nI (by omega) (by omega)) (congrArg _ (nI_clamp (by omega))) dX2_handOn_28 ?_
        refine g_iload_n cx dX2_handOn_29 rfl ?_
        refine g_iload cx dX2_handOn_30 rfl ?_
        refine g_callSN (ws' := [(h, .inr (2, [.ref v, .ref er, .long mk, .int ((hnd d r q (fe q) k (fv, lo)).2)])), (v, .inl (E.2.1 0, 64, .inl ((hnd d r q (fe q) k (fv, lo)).1))), (er, .inl (E.2.1 0, 64, .inl fe))]) (As := [.int (fe q), .int (nI r), .int (nI (nF r + k))]) (rest := []) (n := 3) cx (c_X4_shareOf l E (fe q) r (nF r + k) (by omega) (by omega)) gX2_handOn_X4_shareOf_n59 rfl cx.2.2.2.2.2.1.2.2.1.2.2.2.1 (by decide +kernel) (by decide +kernel) rfl rfl ⟨Nat.le_of_ble_eq_true rfl, Nat.le_of_ble_eq_true rfl⟩ ⟨Nat.zero_le _, Nat.zero_le _⟩ [] (by decide) rfl rfl rfl rfl (Nat.le_of_ble_eq_true rfl) dX2_handOn_32 ?_
        refine g_istore (lv' := [(6, .int (sh r (nF r + k) (fe q))), (0, .ref h), (1, .int (nI q)), (2, .int (nI r)), (3, .int d), (4, .int (nI (nF (r + 1)))), (5, .int (nI (nF r + k)))]) cx dX2_handOn_35 (by decide) rfl ?_
        refine g_iload_n cx dX2_handOn_37 rfl ?_
        refine g_iload cx dX2_handOn_38 rfl ?_
        refine g_iload_n cx dX2_handOn_40 rfl ?_
        refine g_callSN (ws' := [(h, .inr (2, [.ref v, .ref er, .long mk, .int ((hnd d r q (fe q) k (fv, lo)).2)])), (v, .inl (E.2.1 0, 64, .inl ((hnd d r q (fe q) k (fv, lo)).1))), (er, .inl (E.2.1 0, 64, .inl fe))]) (As := [.int (nI q), .int (nI (nF r + k)), .int d]) (rest := []) (n := 3) cx (c_X4_cellTowards l E q (nF r + k) d (by omega) (by omega)) gX2_handOn_X4_cellTowards_n63 rfl cx.2.2.2.2.2.1.2.2.1.2.2.2.2.1 (by decide +kernel) (by decide +kernel) rfl rfl ⟨Nat.le_of_ble_eq_true rfl, Nat.le_of_ble_eq_true rfl⟩ ⟨Nat.zero_le _, Nat.zero_le _⟩ [] (by decide) rfl rfl rfl rfl (Nat.le_of_ble_eq_true rfl) dX2_handOn_41 ?_
        refine g_istore (lv' := [(7, .int (tI d (nF r + k) q)), (6, .int (sh r (nF r + k) (fe q))), (0, .ref h), (1, .int (nI q)), (2, .int (nI r)), (3, .int d), (4, .int (nI (nF (r + 1)))), (5, .int (nI (nF r + k)))]) cx dX2_handOn_44 (by decide) rfl ?_
        refine g_iload cx dX2_handOn_46 rfl ?_
        refine g_iconst cx dX2_handOn_48 kc_im1 ?_
        refine g_icmp_ne (tgt := 66) cx dX2_handOn_49 (by decide) (fun z2 => ?_) (fun z2 => ?_)
        ·
          have ht := tI_nat (d := d) (j := nF r + k) (c := q) hd (by omega) (by omega) (by assumption)
          rw [ht.2]
          refine g_aload_n cx dX2_handOn_66 rfl ?_
          refine g_get (C := RX2) (T := TX2) (N := 4) (ci := 2) cx hiX2 0 0 (by decide) rfl (by decide +kernel) rfl rfl dX2_handOn_67 ?_
          refine g_iload cx dX2_handOn_70 rfl ?_
          refine g_dup2 cx dX2_handOn_72 rfl rfl ?_
          refine g_iald cx 1 rfl rfl (vp_in_nI (by omega) (by omega)) (congrArg _ (nI_clamp (by omega))) dX2_handOn_73 ?_
          refine g_iload cx dX2_handOn_74 rfl ?_
          refine g_iadd cx dX2_handOn_76 ?_
          refine g_iast (ws' := [(h, .inr (2, [.ref v, .ref er, .long mk, .int ((hnd d r q (fe q) k (fv, lo)).2)])), (v, .inl (E.2.1 0, 64, .inl (upd ((hnd d r q (fe q) k (fv, lo)).1) (tN d (nF r + k) q) ((((hnd d r q (fe q) k (fv, lo)).1) (tN d (nF r + k) q)) + (sh r (nF r + k) (fe q)))))), (er, .inl (E.2.1 0, 64, .inl fe))]) cx 1 rfl rfl (vp_in_nI (by omega) (by omega)) (by rw [nI_clamp (by omega)]; rfl) dX2_handOn_77 ?_
          refine g_iinc (lv' := [(5, .int (nI (nF r + k + 1))), (7, .int (nI (tN d (nF r + k) q))), (6, .int (sh r (nF r + k) (fe q))), (0, .ref h), (1, .int (nI q)), (2, .int (nI r)), (3, .int d), (4, .int (nI (nF (r + 1))))]) (k := 7) cx dX2_handOn_78 rfl (gn_inc1 (nF r + k)) (by decide) rfl ?_
          refine g_goto (tgt := 16) cx dX2_handOn_81 (by decide) ?_
          refine g_lv [3, 4, 5, 6, 7, 0] rfl ?_
          exact ih_L16 (k + 1) (upd ((hnd d r q (fe q) k (fv, lo)).1) (tN d (nF r + k) q) ((((hnd d r q (fe q) k (fv, lo)).1) (tN d (nF r + k) q)) + (sh r (nF r + k) (fe q)))) ((hnd d r q (fe q) k (fv, lo)).2) (by omega) (by first | exact (congrArg Prod.fst (hnd_p (d := d) (r := r) (c := q) (k := k) (e := fe q) (s := (fv, lo)) (by assumption))).symm | exact (congrArg Prod.fst (hnd_n (d := d) (r := r) (c := q) (k := k) (e := fe q) (s := (fv, lo)) (by assumption))).symm) (by first | exact (congrArg Prod.snd (hnd_p (d := d) (r := r) (c := q) (k := k) (e := fe q) (s := (fv, lo)) (by assumption))).symm | exact (congrArg Prod.snd (hnd_n (d := d) (r := r) (c := q) (k := k) (e := fe q) (s := (fv, lo)) (by assumption))).symm) (by omega)
        ·
          refine g_aload_n cx dX2_handOn_52 rfl ?_
          refine g_dup cx dX2_handOn_53 rfl ?_
          refine g_get (C := RX2) (T := TX2) (N := 4) (ci := 2) cx hiX2 0 3 (by decide) rfl (by decide +kernel) rfl rfl dX2_handOn_54 ?_
          refine g_iload cx dX2_handOn_57 rfl ?_
          refine g_iadd cx dX2_handOn_59 ?_
          refine g_put (ws' := [(h, .inr (2, [.ref v, .ref er, .long mk, .int (((hnd d r q (fe q) k (fv, lo)).2) + (sh r (nF r + k) (fe q)))])), (v, .inl (E.2.1 0, 64, .inl ((hnd d r q (fe q) k (fv, lo)).1))), (er, .inl (E.2.1 0, 64, .inl fe))]) (C := RX2) (T := TX2) (N := 4) (ci := 2) cx hiX2 tyX2 tyX2_ok nmX2 0 3 (by decide) rfl (by decide +kernel) rfl rfl rfl rfl rfl (Nat.le_of_ble_eq_true rfl) rfl dX2_handOn_60 ?_
          refine g_goto (tgt := 78) cx dX2_handOn_63 (by decide) ?_
          refine g_iinc (lv' := [(5, .int (nI (nF r + k + 1))), (7, .int (tI d (nF r + k) q)), (6, .int (sh r (nF r + k) (fe q))), (0, .ref h), (1, .int (nI q)), (2, .int (nI r)), (3, .int d), (4, .int (nI (nF (r + 1))))]) (k := 7) cx dX2_handOn_78 rfl (gn_inc1 (nF r + k)) (by decide) rfl ?_
          refine g_goto (tgt := 16) cx dX2_handOn_81 (by decide) ?_
          refine g_lv [3, 4, 5, 6, 7, 0] rfl ?_
          exact ih_L16 (k + 1) ((hnd d r q (fe q) k (fv, lo)).1) (((hnd d r q (fe q) k (fv, lo)).2) + (sh r (nF r + k) (fe q))) (by omega) (by first | exact (congrArg Prod.fst (hnd_p (d := d) (r := r) (c := q) (k := k) (e := fe q) (s := (fv, lo)) (by assumption))).symm | exact (congrArg Prod.fst (hnd_n (d := d) (r := r) (c := q) (k := k) (e := fe q) (s := (fv, lo)) (by assumption))).symm) (by first | exact (congrArg Prod.snd (hnd_p (d := d) (r := r) (c := q) (k := k) (e := fe q) (s := (fv, lo)) (by assumption))).symm | exact (congrArg Prod.snd (hnd_n (d := d) (r := r) (c := q) (k := k) (e := fe q) (s := (fv, lo)) (by assumption))).symm) (by omega)
  refine g_lv [2, 3, 4, 5, 1, 0] rfl ?_
  exact L16 (nF (r + 1) - nF r - 0 + 1) 0 fv lo (by omega) rfl rfl (by omega)
set_option maxRecDepth 100000 in
set_option maxHeartbeats 4000000 in
theorem c_X2_collect (l : Launch) (E : gEnv) (h : Nat) (v : Nat) (er : Nat) (fv : Nat → Int32) (fe : Nat → Int32) (mk : Int64) (lo : Int32) (hq : Nat) (aq : Nat) (f : Nat → Int32) (r0 : Int32) (t0 : Int32) (w : Bool) (q : Nat) (r : Nat) (hq6 : q < 64) (hr : r < 4) : gM l yX2_collect wsX2_collect ({ frames := 1, cells := 0, slots := 0, locals := 25 } : Room) E [.ref h, .ref hq, .int (nI q), .int (nI r)] [(h, .inr (2, [.ref v, .ref er, .long mk, .int lo])), (v, .inl (E.2.1 0, 64, .inl fv)), (er, .inl (E.2.1 0, 64, .inl fe)), (hq, .inr (3, [.ref aq, .int r0, .int t0, .int (gB w)])), (aq, .inl (E.2.1 0, 64, .inl f))] [(h, .inr (2, [.ref v, .ref er, .long mk, .int lo])), (v, .inl (E.2.1 0, 64, .inl fv)), (er, .inl (E.2.1 0, 64, .inl fe)), (hq, .inr (3, [.ref aq, .int r0, .int t0, .int (gB w)])), (aq, .inl (E.2.1 0, 64, .inl f))] (some (.int (clt w r q fe (cntR r)))) := by
  refine gM.ofG (cc := cX2_collect) (nL := 10) (ret := (some .int)) (own := RX2) [(0, .ref h), (1, .ref hq), (2, .int (nI q)), (3, .int (nI r))] (by decide) rfl rfl (Nat.le_of_ble_eq_true rfl) rfl rfl ?_
  intro pX eX sX mX bX tX cX A cx
  have hiX2 : ∀ w ∈ u_ws RX2 TX2 4, w ∈ wsX2_collect := by decide +kernel
  have hF := nF_f hr
  have hDl : ∀ j, j < 12 → nD j ≤ 2 := by decide
  refine g_iconst cx dX2_collect_0 kc_i0 ?_
  refine g_istore (lv' := [(4, .int (nI 0)), (0, .ref h), (1, .ref hq), (2, .int (nI q)), (3, .int (nI r))]) cx dX2_collect_1 (by decide) rfl ?_
  refine g_getsN cx cx.2.2.2.2.2.1.2.1.1 cx.2.2.2.2.2.1.2.2.1.1 dX2_collect_3 ?_
  refine g_iload_n cx dX2_collect_6 rfl ?_
  refine g_iconst cx dX2_collect_7 kc_i1 ?_
  refine g_iadd cx dX2_collect_8 ?_
  refine g_top (nI_add r 1) ?_
  refine g_ti cx cx.2.2.2.2.2.1.2.1.1 (vp_in_nI (by omega) (by omega)) ((congrArg zF (nI_clamp (by omega))).trans (zF_nat (by omega))) dX2_collect_9 ?_
  refine g_istore (lv' := [(5, .int (nI (nF (r + 1)))), (4, .int (nI 0)), (0, .ref h), (1, .ref hq), (2, .int (nI q)), (3, .int (nI r))]) cx dX2_collect_10 (by decide) rfl ?_
  refine g_getsN cx cx.2.2.2.2.2.1.2.1.1 cx.2.2.2.2.2.1.2.2.1.1 dX2_collect_12 ?_
  refine g_iload_n cx dX2_collect_15 rfl ?_
  refine g_ti cx cx.2.2.2.2.2.1.2.1.1 (vp_in_nI (by omega) (by omega)) ((congrArg zF (nI_clamp (by omega))).trans (zF_nat (by omega))) dX2_collect_16 ?_
  refine g_istore (lv' := [(6, .int (nI (nF r))), (5, .int (nI (nF (r + 1)))), (4, .int (nI 0)), (0, .ref h), (1, .ref hq), (2, .int (nI q)), (3, .int (nI r))]) cx dX2_collect_17 (by decide) rfl ?_
  have L19 : ∀ (n_ : Nat) (k : Nat) (x : Int32), nF (r + 1) - nF r - k < n_ → x = clt w r q fe k → nF r + k ≤ nF (r + 1) → gG pX l eX ({ frames := 1, cells := 0, slots := 0, locals := 25 } : Room) sX mX ([.ref h, .ref hq, .int (nI q), .int (nI r)] : List Value).toArray bX tX cX 10 E A (MQ bX (gQ E [(h, .inr (2, [.ref v, .ref er, .long mk, .int lo])), (v, .inl (E.2.1 0, 64, .inl fv)), (er, .inl (E.2.1 0, 64, .inl fe)), (hq, .inr (3, [.ref aq, .int r0, .int t0, .int (gB w)])), (aq, .inl (E.2.1 0, 64, .inl f))] (some (.int (clt w r q fe (cntR r)))) A) ([.ref h, .ref hq, .int (nI q), .int (nI r)] : List Value).toArray sX 0 0 A) 0 0 [(h, .inr (2, [.ref v, .ref er, .long mk, .int lo])), (v, .inl (E.2.1 0, 64, .inl fv)), (er, .inl (E.2.1 0, 64, .inl fe)), (hq, .inr (3, [.ref aq, .int r0, .int t0, .int (gB w)])), (aq, .inl (E.2.1 0, 64, .inl f))] [(0, .ref h), (1, .ref hq), (2, .int (nI q)), (3, .int (nI r)), (4, .int x), (5, .int (nI (nF (r + 1)))), (6, .int (nI (nF r + k)))] [] 19 := by
    intro n_
    induction n_ with
    | zero => intro k x hm_; exact absurd hm_ (Nat.not_lt_zero _)
    | succ n_ ih_L19 =>
      intro k x hm_ e_x hk
      subst e_x
      refine g_iload cx dX2_collect_19 rfl ?_
      refine g_iload cx dX2_collect_21 rfl ?_
      refine g_icmp_ge (tgt := 107) cx dX2_collect_23 (by decide) (fun z1 => ?_) (fun z1 => ?_)
      ·
        have z1 := gn_le (a := nF (r + 1)) (b := nF r + k) (by omega) (by omega) z1
        refine g_iload cx dX2_collect_107 rfl ?_
        exact g_iretE cx dX2_collect_109 (rfl) (by rw [show cntR r = k from by unfold cntR; omega])
      ·
        have z1 := gn_nle (a := nF (r + 1)) (b := nF r + k) (by omega) (by omega) z1
        have hD2 := hDl (nF r + k) (by omega)
        refine g_iload_n cx dX2_collect_26 rfl ?_
        refine g_bipush cx dX2_collect_27 kc_b8 ?_
        refine g_idiv cx dX2_collect_29 (by decide) ?_
        refine g_top (pk_div (a := q) (d := 8) (by omega) (by omega) (by omega)) ?_
        refine g_getsN cx cx.2.2.2.2.2.1.2.1.2.1 cx.2.2.2.2.2.1.2.2.1.2.1 dX2_collect_30 ?_
        refine g_iload cx dX2_collect_33 rfl ?_
        refine g_ti cx cx.2.2.2.2.2.1.2.1.2.1 (vp_in_nI (by omega) (by omega)) ((congrArg zD (nI_clamp (by omega))).trans (zD_nat (by omega))) dX2_collect_35 ?_
        refine g_isub cx dX2_collect_36 ?_
        refine g_istore (lv' := [(7, .int ((nI (q / 8)) - (nI (nD (nF r + k))))), (0, .ref h), (1, .ref hq), (2, .int (nI q)), (3, .int (nI r)), (4, .int (clt w r q fe k)), (5, .int (nI (nF (r + 1)))), (6, .int (nI (nF r + k)))]) cx dX2_collect_37 (by decide) rfl ?_
        refine g_iload cx dX2_collect_39 rfl ?_
        refine g_if_lt (tgt := 53) cx dX2_collect_41 (by decide) (fun z2 => ?_) (fun z2 => ?_)
        ·
          have z2 := gi0_lt z2
          refine g_iconst cx dX2_collect_53 kc_i1 ?_
          refine g_istore (lv' := [(8, .int (nI 1)), (7, .int ((nI (q / 8)) - (nI (nD (nF r + k))))), (0, .ref h), (1, .ref hq), (2, .int (nI q)), (3, .int (nI r)), (4, .int (clt w r q fe k)), (5, .int (nI (nF (r + 1)))), (6, .int (nI (nF r + k)))]) cx dX2_collect_54 (by decide) rfl ?_
          refine g_iload cx dX2_collect_56 rfl ?_
          refine g_iload_n cx dX2_collect_58 rfl ?_
          refine g_bipush cx dX2_collect_59 kc_b8 ?_
          refine g_irem cx dX2_collect_61 (by decide) ?_
          refine g_top (pk_rem (a := q) (d := 8) (by omega) (by omega) (by omega)) ?_
          refine g_getsN cx cx.2.2.2.2.2.1.2.1.2.2.1 cx.2.2.2.2.2.1.2.2.1.2.2.1 dX2_collect_62 ?_
          refine g_iload cx dX2_collect_65 rfl ?_
          refine g_ti cx cx.2.2.2.2.2.1.2.1.2.2.1 (vp_in_nI (by omega) (by omega)) (congrArg zA (nI_clamp (by omega))) dX2_collect_67 ?_
          refine g_iload cx dX2_collect_68 rfl ?_
          refine g_imul cx dX2_collect_70 ?_
          refine g_isub cx dX2_collect_71 ?_
          refine g_callSN (ws' := [(h, .inr (2, [.ref v, .ref er, .long mk, .int lo])), (v, .inl (E.2.1 0, 64, .inl fv)), (er, .inl (E.2.1 0, 64, .inl fe)), (hq, .inr (3, [.ref aq, .int r0, .int t0, .int (gB w)])), (aq, .inl (E.2.1 0, 64, .inl f))]) (As := [.int ((nI (q / 8)) - (nI (nD (nF r + k)))), .int ((nI (q % 8)) - ((zA (nF r + k)) * (nI 1)))]) (rest := []) (n := 2) cx (c_X4_cellIn l E ((nI (q / 8)) - (nI (nD (nF r + k)))) ((nI (q % 8)) - ((zA (nF r + k)) * (nI 1))) ) gX2_collect_X4_cellIn_n72 rfl cx.2.2.2.2.2.1.2.2.1.2.2.2.2.2 (by decide +kernel) (by decide +kernel) rfl rfl ⟨Nat.le_of_ble_eq_true rfl, Nat.le_of_ble_eq_true rfl⟩ ⟨Nat.zero_le _, Nat.zero_le _⟩ [] (by decide) rfl rfl rfl rfl (Nat.le_of_ble_eq_true rfl) dX2_collect_72 ?_
          refine g_top (show cIn ((nI (q / 8)) - (nI (nD (nF r + k)))) ((nI (q % 8)) - ((zA (nF r + k)) * (nI 1))) = gI w (nF r + k) q from (by first | exact gI_p hrow | exact gI_m (by omega) (by omega) (by assumption))) ?_
          refine g_istore (lv' := [(9, .int (gI w (nF r + k) q)), (8, .int (nI 1)), (7, .int ((nI (q / 8)) - (nI (nD (nF r + k))))), (0, .ref h), (1, .ref hq), (2, .int (nI q)), (3, .int (nI r)), (4, .int (clt w r q fe k)), (5, .int (nI (nF (r + 1)))), (6, .int (nI (nF r + k)))]) cx dX2_collect_75 (by decide) rfl ?_
          refine g_iload cx dX2_collect_77 rfl ?_
          refine g_iconst cx dX2_collect_79 kc_im1 ?_
          refine g_icmp_eq (tgt := 101) cx dX2_collect_80 (by decide) (fun z3 => ?_) (fun z3 => ?_)
          ·
            refine g_iinc (lv' := [(6, .int (nI (nF r + k + 1))), (9, .int (gI w (nF r + k) q)), (8, .int (nI 1)), (7, .int ((nI (q / 8)) - (nI (nD (nF r + k))))), (0, .ref h), (1, .ref hq), (2, .int (nI q)), (3, .int (nI r)), (4, .int (clt w r q fe k)), (5, .int (nI (nF (r + 1))))]) (k := 9) cx dX2_collect_101 rfl (gn_inc1 (nF r + k)) (by decide) rfl ?_
            refine g_goto (tgt := 19) cx dX2_collect_104 (by decide) ?_
            refine g_lv [4, 5, 6, 7, 8, 9, 0] rfl ?_
            exact ih_L19 (k + 1) (clt w r q fe k) (by omega) (by first | exact (if_pos (by assumption)).symm | exact (if_neg (by assumption)).symm) (by omega)
          ·
            have hg := gI_nat (w := w) (j := nF r + k) (c := q) (by omega) hq6 (by assumption)
            rw [hg.2]
            refine g_iload cx dX2_collect_83 rfl ?_
            refine g_aload_n cx dX2_collect_85 rfl ?_
            refine g_get (C := RX2) (T := TX2) (N := 4) (ci := 2) cx hiX2 0 1 (by decide) rfl (by decide +kernel) rfl rfl dX2_collect_86 ?_
            refine g_iload cx dX2_collect_89 rfl ?_
            refine g_iald cx 2 rfl rfl (vp_in_nI (by omega) (by omega)) (congrArg _ (nI_clamp (by omega))) dX2_collect_91 ?_
            refine g_iload_n cx dX2_collect_92 rfl ?_
            refine g_iload cx dX2_collect_93 rfl ?_
            refine g_callSN (ws' := [(h, .inr (2, [.ref v, .ref er, .long mk, .int lo])), (v, .inl (E.2.1 0, 64, .inl fv)), (er, .inl (E.2.1 0, 64, .inl fe)), (hq, .inr (3, [.ref aq, .int r0, .int t0, .int (gB w)])), (aq, .inl (E.2.1 0, 64, .inl f))]) (As := [.int (fe (gN w (nF r + k) q)), .int (nI r), .int (nI (nF r + k))]) (rest := [.int (clt w r q fe k)]) (n := 3) cx (c_X4_shareOf l E (fe (gN w (nF r + k) q)) r (nF r + k) (by omega) (by omega)) gX2_collect_X4_shareOf_n59 rfl cx.2.2.2.2.2.1.2.2.1.2.2.2.1 (by decide +kernel) (by decide +kernel) rfl rfl ⟨Nat.le_of_ble_eq_true rfl, Nat.le_of_ble_eq_true rfl⟩ ⟨Nat.zero_le _, Nat.zero_le _⟩ [] (by decide) rfl rfl rfl rfl (Nat.le_of_ble_eq_true rfl) dX2_collect_95 ?_
            refine g_iadd cx dX2_collect_98 ?_
            refine g_istore (lv' := [(4, .int ((clt w r q fe k) + (sh r (nF r + k) (fe (gN w (nF r + k) q))))), (9, .int (nI (gN w (nF r + k) q))), (8, .int (nI 1)), (7, .int ((nI (q / 8)) - (nI (nD (nF r + k))))), (0, .ref h), (1, .ref hq), (2, .int (nI q)), (3, .int (nI r)), (5, .int (nI (nF (r + 1)))), (6, .int (nI (nF r + k)))]) cx dX2_collect_99 (by decide) rfl ?_
            refine g_iinc (lv' := [(6, .int (nI (nF r + k + 1))), (4, .int ((clt w r q fe k) + (sh r (nF r + k) (fe (gN w (nF r + k) q))))), (9, .int (nI (gN w (nF r + k) q))), (8, .int (nI 1)), (7, .int ((nI (q / 8)) - (nI (nD (nF r + k))))), (0, .ref h), (1, .ref hq), (2, .int (nI q)), (3, .int (nI r)), (5, .int (nI (nF (r + 1))))]) (k := 9) cx dX2_collect_101 rfl (gn_inc1 (nF r + k)) (by decide) rfl ?_
            refine g_goto (tgt := 19) cx dX2_collect_104 (by decide) ?_
            refine g_lv [5, 6, 7, 8, 1, 9, 0] rfl ?_
            exact ih_L19 (k + 1) ((clt w r q fe k) + (sh r (nF r + k) (fe (gN w (nF r + k) q)))) (by omega) (by first | exact (if_pos (by assumption)).symm | exact (if_neg (by assumption)).symm) (by omega)
        ·
          have z2 := gi0_nlt z2
          have hrow : nD (nF r + k) ≤ q / 8 := gsub_le (by omega) (by omega) (by assumption)
          rw [pk_sub hrow]
          refine g_aload_n cx dX2_collect_44 rfl ?_
          refine g_iload cx dX2_collect_45 rfl ?_
          refine g_callV (ws' := [(h, .inr (2, [.ref v, .ref er, .long mk, .int lo])), (v, .inl (E.2.1 0, 64, .inl fv)), (er, .inl (E.2.1 0, 64, .inl fe)), (hq, .inr (3, [.ref aq, .int r0, .int t0, .int (gB w)])), (aq, .inl (E.2.1 0, 64, .inl f))]) (As := [.int (nI (q / 8 - nD (nF r + k)))]) (rest := []) (n := 1) (T := TX3) (N := 4) (ci := 3) cx (c_X3_directionOfRow l E hq aq f r0 t0 w (q / 8 - nD (nF r + k)) (by omega)) gX2_collect_X3_directionOfRow rfl (by decide +kernel) rfl rfl ⟨Nat.le_of_ble_eq_true rfl, Nat.le_of_ble_eq_true rfl⟩ ⟨Nat.zero_le _, Nat.zero_le _⟩ [3, 4] 3 rfl rfl (by decide) rfl rfl rfl rfl (Nat.le_of_ble_eq_true rfl) dX2_collect_47 ?_
          refine g_goto (tgt := 54) cx dX2_collect_50 (by decide) ?_
          refine g_istore (lv' := [(8, .int (dirI w (q / 8 - nD (nF r + k)))), (7, .int (nI (q / 8 - nD (nF r + k)))), (0, .ref h), (1, .ref hq), (2, .int (nI q)), (3, .int (nI r)), (4, .int (clt w r q fe k)), (5, .int (nI (nF (r + 1)))), (6, .int (nI (nF r + k)))]) cx dX2_collect_54 (by decide) rfl ?_
          refine g_iload cx dX2_collect_56 rfl ?_
          refine g_iload_n cx dX2_collect_58 rfl ?_
          refine g_bipush cx dX2_collect_59 kc_b8 ?_
          refine g_irem cx dX2_collect_61 (by decide) ?_
          refine g_top (pk_rem (a := q) (d := 8) (by omega) (by omega) (by omega)) ?_
          refine g_getsN cx cx.2.2.2.2.2.1.2.1.2.2.1 cx.2.2.2.2.2.1.2.2.1.2.2.1 dX2_collect_62 ?_
          refine g_iload cx dX2_collect_65 rfl ?_
          refine g_ti cx cx.2.2.2.2.2.1.2.1.2.2.1 (vp_in_nI (by omega) (by omega)) (congrArg zA (nI_clamp (by omega))) dX2_collect_67 ?_
          refine g_iload cx dX2_collect_68 rfl ?_
          refine g_imul cx dX2_collect_70 ?_
          refine g_isub cx dX2_collect_71 ?_
          refine g_callSN (ws' := [(h, .inr (2, [.ref v, .ref er, .long mk, .int lo])), (v, .inl (E.2.1 0, 64, .inl fv)), (er, .inl (E.2.1 0, 64, .inl fe)), (hq, .inr (3, [.ref aq, .int r0, .int t0, .int (gB w)])), (aq, .inl (E.2.1 0, 64, .inl f))]) (As := [.int (nI (q / 8 - nD (nF r + k))), .int ((nI (q % 8)) - ((zA (nF r + k)) * (dirI w (q / 8 - nD (nF r + k)))))]) (rest := []) (n := 2) cx (c_X4_cellIn l E (nI (q / 8 - nD (nF r + k))) ((nI (q % 8)) - ((zA (nF r + k)) * (dirI w (q / 8 - nD (nF r + k))))) ) gX2_collect_X4_cellIn_n72 rfl cx.2.2.2.2.2.1.2.2.1.2.2.2.2.2 (by decide +kernel) (by decide +kernel) rfl rfl ⟨Nat.le_of_ble_eq_true rfl, Nat.le_of_ble_eq_true rfl⟩ ⟨Nat.zero_le _, Nat.zero_le _⟩ [] (by decide) rfl rfl rfl rfl (Nat.le_of_ble_eq_true rfl) dX2_collect_72 ?_
          refine g_top (show cIn (nI (q / 8 - nD (nF r + k))) ((nI (q % 8)) - ((zA (nF r + k)) * (dirI w (q / 8 - nD (nF r + k))))) = gI w (nF r + k) q from (by first | exact gI_p hrow | exact gI_m (by omega) (by omega) (by assumption))) ?_
          refine g_istore (lv' := [(9, .int (gI w (nF r + k) q)), (8, .int (dirI w (q / 8 - nD (nF r + k)))), (7, .int (nI (q / 8 - nD (nF r + k)))), (0, .ref h), (1, .ref hq), (2, .int (nI q)), (3, .int (nI r)), (4, .int (clt w r q fe k)), (5, .int (nI (nF (r + 1)))), (6, .int (nI (nF r + k)))]) cx dX2_collect_75 (by decide) rfl ?_
          refine g_iload cx dX2_collect_77 rfl ?_
          refine g_iconst cx dX2_collect_79 kc_im1 ?_
          refine g_icmp_eq (tgt := 101) cx dX2_collect_80 (by decide) (fun z4 => ?_) (fun z4 => ?_)
          ·
            refine g_iinc (lv' := [(6, .int (nI (nF r + k + 1))), (9, .int (gI w (nF r + k) q)), (8, .int (dirI w (q / 8 - nD (nF r + k)))), (7, .int (nI (q / 8 - nD (nF r + k)))), (0, .ref h), (1, .ref hq), (2, .int (nI q)), (3, .int (nI r)), (4, .int (clt w r q fe k)), (5, .int (nI (nF (r + 1))))]) (k := 9) cx dX2_collect_101 rfl (gn_inc1 (nF r + k)) (by decide) rfl ?_
            refine g_goto (tgt := 19) cx dX2_collect_104 (by decide) ?_
            refine g_lv [4, 5, 6, 7, 8, 9, 0] rfl ?_
            exact ih_L19 (k + 1) (clt w r q fe k) (by omega) (by first | exact (if_pos (by assumption)).symm | exact (if_neg (by assumption)).symm) (by omega)
          ·
            have hg := gI_nat (w := w) (j := nF r + k) (c := q) (by omega) hq6 (by assumption)
            rw [hg.2]
            refine g_iload cx dX2_collect_83 rfl ?_
            refine g_aload_n cx dX2_collect_85 rfl ?_
            refine g_get (C := RX2) (T := TX2) (N := 4) (ci := 2) cx hiX2 0 1 (by decide) rfl (by decide +kernel) rfl rfl dX2_collect_86 ?_
            refine g_iload cx dX2_collect_89 rfl ?_
            refine g_iald cx 2 rfl rfl (vp_in_nI (by omega) (by omega)) (congrArg _ (nI_clamp (by omega))) dX2_collect_91 ?_
            refine g_iload_n cx dX2_collect_92 rfl ?_
            refine g_iload cx dX2_collect_93 rfl ?_
            refine g_callSN (ws' := [(h, .inr (2, [.ref v, .ref er, .long mk, .int lo])), (v, .inl (E.2.1 0, 64, .inl fv)), (er, .inl (E.2.1 0, 64, .inl fe)), (hq, .inr (3, [.ref aq, .int r0, .int t0, .int (gB w)])), (aq, .inl (E.2.1 0, 64, .inl f))]) (As := [.int (fe (gN w (nF r + k) q)), .int (nI r), .int (nI (nF r + k))]) (rest := [.int (clt w r q fe k)]) (n := 3) cx (c_X4_shareOf l E (fe (gN w (nF r + k) q)) r (nF r + k) (by omega) (by omega)) gX2_collect_X4_shareOf_n59 rfl cx.2.2.2.2.2.1.2.2.1.2.2.2.1 (by decide +kernel) (by decide +kernel) rfl rfl ⟨Nat.le_of_ble_eq_true rfl, Nat.le_of_ble_eq_true rfl⟩ ⟨Nat.zero_le _, Nat.zero_le _⟩ [] (by decide) rfl rfl rfl rfl (Nat.le_of_ble_eq_true rfl) dX2_collect_95 ?_
            refine g_iadd cx dX2_collect_98 ?_
            refine g_istore (lv' := [(4, .int ((clt w r q fe k) + (sh r (nF r + k) (fe (gN w (nF r + k) q))))), (9, .int (nI (gN w (nF r + k) q))), (8, .int (dirI w (q / 8 - nD (nF r + k)))), (7, .int (nI (q / 8 - nD (nF r + k)))), (0, .ref h), (1, .ref hq), (2, .int (nI q)), (3, .int (nI r)), (5, .int (nI (nF (r + 1)))), (6, .int (nI (nF r + k)))]) cx dX2_collect_99 (by decide) rfl ?_
            refine g_iinc (lv' := [(6, .int (nI (nF r + k + 1))), (4, .int ((clt w r q fe k) + (sh r (nF r + k) (fe (gN w (nF r + k) q))))), (9, .int (nI (gN w (nF r + k) q))), (8, .int (dirI w (q / 8 - nD (nF r + k)))), (7, .int (nI (q / 8 - nD (nF r + k)))), (0, .ref h), (1, .ref hq), (2, .int (nI q)), (3, .int (nI r)), (5, .int (nI (nF (r + 1))))]) (k := 9) cx dX2_collect_101 rfl (gn_inc1 (nF r + k)) (by decide) rfl ?_
            refine g_goto (tgt := 19) cx dX2_collect_104 (by decide) ?_
            refine g_lv [5, 6, 7, 8, 1, 9, 0] rfl ?_
            exact ih_L19 (k + 1) ((clt w r q fe k) + (sh r (nF r + k) (fe (gN w (nF r + k) q)))) (by omega) (by first | exact (if_pos (by assumption)).symm | exact (if_neg (by assumption)).symm) (by omega)
  refine g_lv [3, 4, 5, 6, 2, 1, 0] rfl ?_
  exact L19 (nF (r + 1) - nF r - 0 + 1) 0 (nI 0) (by omega) rfl (by omega)
set_option maxRecDepth 100000 in
set_option maxHeartbeats 4000000 in
theorem c_X2_paintByHandingOn (l : Launch) (E : gEnv) (h : Nat) (v : Nat) (er : Nat) (fv : Nat → Int32) (fe : Nat → Int32) (mk : Int64) (lo : Int32) (hq : Nat) (aq : Nat) (f : Nat → Int32) (r0 : Int32) (t0 : Int32) (w : Bool) (r : Nat) (thr : Int32) (hr : r < 4) : gM l yX2_paintByHandingOn wsX2_paintByHandingOn ({ frames := 3, cells := 0, slots := 0, locals := 71 } : Room) E [.ref h, .ref hq, .int (nI r), .int thr] [(h, .inr (2, [.ref v, .ref er, .long mk, .int lo])), (v, .inl (E.2.1 0, 64, .inl fv)), (er, .inl (E.2.1 0, 64, .inl fe)), (hq, .inr (3, [.ref aq, .int r0, .int t0, .int (gB w)])), (aq, .inl (E.2.1 0, 64, .inl f))] [(h, .inr (2, [.ref v, .ref er, .long ((pst w r thr (f, fe, 0, nI 0) 64).2.2.1), .int ((pst w r thr (f, fe, 0, nI 0) 64).2.2.2)])), (v, .inl (E.2.1 0, 64, .inl ((pst w r thr (f, fe, 0, nI 0) 64).1))), (er, .inl (E.2.1 0, 64, .inl ((pst w r thr (f, fe, 0, nI 0) 64).2.1))), (hq, .inr (3, [.ref aq, .int r0, .int t0, .int (gB w)])), (aq, .inl (E.2.1 0, 64, .inl f))] none := by
  refine gM.ofG (cc := cX2_paintByHandingOn) (nL := 6) (ret := none) (own := RX2) [(0, .ref h), (1, .ref hq), (2, .int (nI r)), (3, .int thr)] (by decide) rfl rfl (Nat.le_of_ble_eq_true rfl) rfl rfl ?_
  intro pX eX sX mX bX tX cX A cx
  have hiX2 : ∀ w ∈ u_ws RX2 TX2 4, w ∈ wsX2_paintByHandingOn := by decide +kernel
  have hiX3 : ∀ w ∈ u_ws RX3 TX3 4, w ∈ wsX2_paintByHandingOn := by decide +kernel
  refine g_aload_n cx dX2_paintByHandingOn_0 rfl ?_
  refine g_get (C := RX3) (T := TX3) (N := 4) (ci := 3) cx hiX3 3 0 (by decide) rfl (by decide +kernel) rfl rfl dX2_paintByHandingOn_1 ?_
  refine g_iconst cx dX2_paintByHandingOn_4 kc_i0 ?_
  refine g_aload_n cx dX2_paintByHandingOn_5 rfl ?_
  refine g_get (C := RX2) (T := TX2) (N := 4) (ci := 2) cx hiX2 0 0 (by decide) rfl (by decide +kernel) rfl rfl dX2_paintByHandingOn_6 ?_
  refine g_iconst cx dX2_paintByHandingOn_9 kc_i0 ?_
  refine g_bipush cx dX2_paintByHandingOn_10 kc_b64 ?_
  refine g_copyi (g2 := f) (ws' := [(h, .inr (2, [.ref v, .ref er, .long mk, .int lo])), (v, .inl (E.2.1 0, 64, .inl f)), (er, .inl (E.2.1 0, 64, .inl fe)), (hq, .inr (3, [.ref aq, .int r0, .int t0, .int (gB w)])), (aq, .inl (E.2.1 0, 64, .inl f))]) cx (by decide +kernel) (by decide +kernel) (by decide +kernel) (by decide +kernel) 4 1 rfl rfl rfl rfl (by decide) (by decide) (by decide) (by decide) (by decide) (Nat.le_of_ble_eq_true rfl) (Nat.le_of_ble_eq_true rfl) dX2_paintByHandingOn_12 (fun j hj => gcpy (by omega) hj) rfl ?_
  refine g_aload_n cx dX2_paintByHandingOn_15 rfl ?_
  refine g_lconst (v := 0) cx dX2_paintByHandingOn_16 rfl ?_
  refine g_put (ws' := [(h, .inr (2, [.ref v, .ref er, .long 0, .int lo])), (v, .inl (E.2.1 0, 64, .inl f)), (er, .inl (E.2.1 0, 64, .inl fe)), (hq, .inr (3, [.ref aq, .int r0, .int t0, .int (gB w)])), (aq, .inl (E.2.1 0, 64, .inl f))]) (C := RX2) (T := TX2) (N := 4) (ci := 2) cx hiX2 tyX2 tyX2_ok nmX2 0 2 (by decide) rfl (by decide +kernel) rfl rfl rfl rfl rfl (Nat.le_of_ble_eq_true rfl) rfl dX2_paintByHandingOn_17 ?_
  refine g_aload_n cx dX2_paintByHandingOn_20 rfl ?_
  refine g_iconst cx dX2_paintByHandingOn_21 kc_i0 ?_
  refine g_put (ws' := [(h, .inr (2, [.ref v, .ref er, .long 0, .int (nI 0)])), (v, .inl (E.2.1 0, 64, .inl f)), (er, .inl (E.2.1 0, 64, .inl fe)), (hq, .inr (3, [.ref aq, .int r0, .int t0, .int (gB w)])), (aq, .inl (E.2.1 0, 64, .inl f))]) (C := RX2) (T := TX2) (N := 4) (ci := 2) cx hiX2 tyX2 tyX2_ok nmX2 0 3 (by decide) rfl (by decide +kernel) rfl rfl rfl rfl rfl (Nat.le_of_ble_eq_true rfl) rfl dX2_paintByHandingOn_22 ?_
  refine g_iconst cx dX2_paintByHandingOn_25 kc_i0 ?_
  refine g_istore (lv' := [(4, .int (nI 0)), (0, .ref h), (1, .ref hq), (2, .int (nI r)), (3, .int thr)]) cx dX2_paintByHandingOn_26 (by decide) rfl ?_
  have L28 : ∀ (n_ : Nat) (i : Nat) (g1 : Nat → Int32) (g2 : Nat → Int32) (g3 : Int64) (g4 : Int32), 64 - i < n_ → g1 = (pst w r thr (f, fe, 0, nI 0) i).1 → g2 = (pst w r thr (f, fe, 0, nI 0) i).2.1 → g3 = (pst w r thr (f, fe, 0, nI 0) i).2.2.1 → g4 = (pst w r thr (f, fe, 0, nI 0) i).2.2.2 → i ≤ 64 → gG pX l eX ({ frames := 3, cells := 0, slots := 0, locals := 71 } : Room) sX mX ([.ref h, .ref hq, .int (nI r), .int thr] : List Value).toArray bX tX cX 6 E A (MQ bX (gQ E [(h, .inr (2, [.ref v, .ref er, .long ((pst w r thr (f, fe, 0, nI 0) 64).2.2.1), .int ((pst w r thr (f, fe, 0, nI 0) 64).2.2.2)])), (v, .inl (E.2.1 0, 64, .inl ((pst w r thr (f, fe, 0, nI 0) 64).1))), (er, .inl (E.2.1 0, 64, .inl ((pst w r thr (f, fe, 0, nI 0) 64).2.1))), (hq, .inr (3, [.ref aq, .int r0, .int t0, .int (gB w)])), (aq, .inl (E.2.1 0, 64, .inl f))] none A) ([.ref h, .ref hq, .int (nI r), .int thr] : List Value).toArray sX 0 0 A) 0 0 [(h, .inr (2, [.ref v, .ref er, .long g3, .int g4])), (v, .inl (E.2.1 0, 64, .inl g1)), (er, .inl (E.2.1 0, 64, .inl g2)), (hq, .inr (3, [.ref aq, .int r0, .int t0, .int (gB w)])), (aq, .inl (E.2.1 0, 64, .inl f))] [(0, .ref h), (1, .ref hq), (2, .int (nI r)), (3, .int thr), (4, .int (nI i))] [] 28 := by
    intro n_
    induction n_ with
    | zero => intro i g1 g2 g3 g4 hm_; exact absurd hm_ (Nat.not_lt_zero _)
    | succ n_ ih_L28 =>
      intro i g1 g2 g3 g4 hm_ e_g1 e_g2 e_g3 e_g4 hi
      subst e_g1
      subst e_g2
      subst e_g3
      subst e_g4
      refine g_iload cx dX2_paintByHandingOn_28 rfl ?_
      refine g_bipush cx dX2_paintByHandingOn_30 kc_b64 ?_
      refine g_icmp_ge (tgt := 72) cx dX2_paintByHandingOn_32 (by decide) (fun z1 => ?_) (fun z1 => ?_)
      ·
        have z1 := gn_le (a := 64) (b := i) (by omega) (by omega) z1
        obtain rfl : i = 64 := by omega
        exact g_vretE cx dX2_paintByHandingOn_72 (rfl)
      ·
        have z1 := gn_nle (a := 64) (b := i) (by omega) (by omega) z1
        have hp := pcl_lt (w := w) (show i < 64 by omega)
        refine g_aload_n cx dX2_paintByHandingOn_35 rfl ?_
        refine g_iload cx dX2_paintByHandingOn_36 rfl ?_
        refine g_callV (ws' := [(h, .inr (2, [.ref v, .ref er, .long ((pst w r thr (f, fe, 0, nI 0) i).2.2.1), .int ((pst w r thr (f, fe, 0, nI 0) i).2.2.2)])), (v, .inl (E.2.1 0, 64, .inl ((pst w r thr (f, fe, 0, nI 0) i).1))), (er, .inl (E.2.1 0, 64, .inl ((pst w r thr (f, fe, 0, nI 0) i).2.1))), (hq, .inr (3, [.ref aq, .int r0, .int t0, .int (gB w)])), (aq, .inl (E.2.1 0, 64, .inl f))]) (As := [.int (nI i)]) (rest := []) (n := 1) (T := TX3) (N := 4) (ci := 3) cx (c_X3_cellPaintedAt l E hq aq f r0 t0 w i (by omega)) gX2_paintByHandingOn_X3_cellPaintedAt rfl (by decide +kernel) rfl rfl ⟨Nat.le_of_ble_eq_true rfl, Nat.le_of_ble_eq_true rfl⟩ ⟨Nat.zero_le _, Nat.zero_le _⟩ [3, 4] 3 rfl rfl (by decide) rfl rfl rfl rfl (Nat.le_of_ble_eq_true rfl) dX2_paintByHandingOn_38 ?_
        refine g_istore (lv' := [(5, .int (nI (pcl w i))), (0, .ref h), (1, .ref hq), (2, .int (nI r)), (3, .int thr), (4, .int (nI i))]) cx dX2_paintByHandingOn_41 (by decide) rfl ?_
        refine g_aload_n cx dX2_paintByHandingOn_43 rfl ?_
        refine g_iload cx dX2_paintByHandingOn_44 rfl ?_
        refine g_iload_n cx dX2_paintByHandingOn_46 rfl ?_
        refine g_callV (ws' := [(h, .inr (2, [.ref v, .ref er, .long (mkk thr (((pst w r thr (f, fe, 0, nI 0) i).1) (pcl w i)) (pcl w i) ((pst w r thr (f, fe, 0, nI 0) i).2.2.1)), .int ((pst w r thr (f, fe, 0, nI 0) i).2.2.2)])), (v, .inl (E.2.1 0, 64, .inl ((pst w r thr (f, fe, 0, nI 0) i).1))), (er, .inl (E.2.1 0, 64, .inl (upd ((pst w r thr (f, fe, 0, nI 0) i).2.1) (pcl w i) (stp thr (((pst w r thr (f, fe, 0, nI 0) i).1) (pcl w i)))))), (hq, .inr (3, [.ref aq, .int r0, .int t0, .int (gB w)])), (aq, .inl (E.2.1 0, 64, .inl f))]) (As := [.int (nI (pcl w i)), .int thr]) (rest := []) (n := 2) (T := TX2) (N := 4) (ci := 2) cx (c_X2_decide l E h v er ((pst w r thr (f, fe, 0, nI 0) i).1) ((pst w r thr (f, fe, 0, nI 0) i).2.1) ((pst w r thr (f, fe, 0, nI 0) i).2.2.1) ((pst w r thr (f, fe, 0, nI 0) i).2.2.2) (pcl w i) thr (by omega)) gX2_paintByHandingOn_X2_decide rfl (by decide +kernel) rfl rfl ⟨Nat.le_of_ble_eq_true rfl, Nat.le_of_ble_eq_true rfl⟩ ⟨Nat.zero_le _, Nat.zero_le _⟩ [0, 1, 2] 0 rfl rfl (by decide) rfl rfl rfl rfl (Nat.le_of_ble_eq_true rfl) dX2_paintByHandingOn_47 ?_
        refine g_aload_n cx dX2_paintByHandingOn_50 rfl ?_
        refine g_iload cx dX2_paintByHandingOn_51 rfl ?_
        refine g_iload_n cx dX2_paintByHandingOn_53 rfl ?_
        refine g_aload_n cx dX2_paintByHandingOn_54 rfl ?_
        refine g_iload cx dX2_paintByHandingOn_55 rfl ?_
        refine g_bipush cx dX2_paintByHandingOn_57 kc_b8 ?_
        refine g_idiv cx dX2_paintByHandingOn_59 (by decide) ?_
        refine g_top (pk_div (a := pcl w i) (d := 8) (by omega) (by omega) (by omega)) ?_
        refine g_callV (ws' := [(h, .inr (2, [.ref v, .ref er, .long (mkk thr (((pst w r thr (f, fe, 0, nI 0) i).1) (pcl w i)) (pcl w i) ((pst w r thr (f, fe, 0, nI 0) i).2.2.1)), .int ((pst w r thr (f, fe, 0, nI 0) i).2.2.2)])), (v, .inl (E.2.1 0, 64, .inl ((pst w r thr (f, fe, 0, nI 0) i).1))), (er, .inl (E.2.1 0, 64, .inl (upd ((pst w r thr (f, fe, 0, nI 0) i).2.1) (pcl w i) (stp thr (((pst w r thr (f, fe, 0, nI 0) i).1) (pcl w i)))))), (hq, .inr (3, [.ref aq, .int r0, .int t0, .int (gB w)])), (aq, .inl (E.2.1 0, 64, .inl f))]) (As := [.int (nI ((pcl w i) / 8))]) (rest := [.int (nI r), .int (nI (pcl w i)), .ref h]) (n := 1) (T := TX3) (N := 4) (ci := 3) cx (c_X3_directionOfRow l E hq aq f r0 t0 w ((pcl w i) / 8) (by omega)) gX2_paintByHandingOn_X3_directionOfRow rfl (by decide +kernel) rfl rfl ⟨Nat.le_of_ble_eq_true rfl, Nat.le_of_ble_eq_true rfl⟩ ⟨Nat.zero_le _, Nat.zero_le _⟩ [3, 4] 3 rfl rfl (by decide) rfl rfl rfl rfl (Nat.le_of_ble_eq_true rfl) dX2_paintByHandingOn_60 ?_
        refine g_callV (ws' := [(h, .inr (2, [.ref v, .ref er, .long (mkk thr (((pst w r thr (f, fe, 0, nI 0) i).1) (pcl w i)) (pcl w i) ((pst w r thr (f, fe, 0, nI 0) i).2.2.1)), .int ((hnd (dirI w ((pcl w i) / 8)) r (pcl w i) ((upd ((pst w r thr (f, fe, 0, nI 0) i).2.1) (pcl w i) (stp thr (((pst w r thr (f, fe, 0, nI 0) i).1) (pcl w i)))) (pcl w i)) (cntR r) (((pst w r thr (f, fe, 0, nI 0) i).1), ((pst w r thr (f, fe, 0, nI 0) i).2.2.2))).2)])), (v, .inl (E.2.1 0, 64, .inl ((hnd (dirI w ((pcl w i) / 8)) r (pcl w i) ((upd ((pst w r thr (f, fe, 0, nI 0) i).2.1) (pcl w i) (stp thr (((pst w r thr (f, fe, 0, nI 0) i).1) (pcl w i)))) (pcl w i)) (cntR r) (((pst w r thr (f, fe, 0, nI 0) i).1), ((pst w r thr (f, fe, 0, nI 0) i).2.2.2))).1))), (er, .inl (E.2.1 0, 64, .inl (upd ((pst w r thr (f, fe, 0, nI 0) i).2.1) (pcl w i) (stp thr (((pst w r thr (f, fe, 0, nI 0) i).1) (pcl w i)))))), (hq, .inr (3, [.ref aq, .int r0, .int t0, .int (gB w)])), (aq, .inl (E.2.1 0, 64, .inl f))]) (As := [.int (nI (pcl w i)), .int (nI r), .int (dirI w ((pcl w i) / 8))]) (rest := []) (n := 3) (T := TX2) (N := 4) (ci := 2) cx (c_X2_handOn l E h v er ((pst w r thr (f, fe, 0, nI 0) i).1) (upd ((pst w r thr (f, fe, 0, nI 0) i).2.1) (pcl w i) (stp thr (((pst w r thr (f, fe, 0, nI 0) i).1) (pcl w i)))) (mkk thr (((pst w r thr (f, fe, 0, nI 0) i).1) (pcl w i)) (pcl w i) ((pst w r thr (f, fe, 0, nI 0) i).2.2.1)) ((pst w r thr (f, fe, 0, nI 0) i).2.2.2) (pcl w i) r (dirI w ((pcl w i) / 8)) (by omega) (by omega) (dirI_cases _ _)) gX2_paintByHandingOn_X2_handOn rfl (by decide +kernel) rfl rfl ⟨Nat.le_of_ble_eq_true rfl, Nat.le_of_ble_eq_true rfl⟩ ⟨Nat.zero_le _, Nat.zero_le _⟩ [0, 1, 2] 0 rfl rfl (by decide) rfl rfl rfl rfl (Nat.le_of_ble_eq_true rfl) dX2_paintByHandingOn_63 ?_
        refine g_iinc (lv' := [(4, .int (nI (i + 1))), (5, .int (nI (pcl w i))), (0, .ref h), (1, .ref hq), (2, .int (nI r)), (3, .int thr)]) (k := 5) cx dX2_paintByHandingOn_66 rfl (gn_inc1 i) (by decide) rfl ?_
        refine g_goto (tgt := 28) cx dX2_paintByHandingOn_69 (by decide) ?_
        refine g_lv [2, 3, 4, 5, 0] rfl ?_
        exact ih_L28 (i + 1) ((hnd (dirI w ((pcl w i) / 8)) r (pcl w i) ((upd ((pst w r thr (f, fe, 0, nI 0) i).2.1) (pcl w i) (stp thr (((pst w r thr (f, fe, 0, nI 0) i).1) (pcl w i)))) (pcl w i)) (cntR r) (((pst w r thr (f, fe, 0, nI 0) i).1), ((pst w r thr (f, fe, 0, nI 0) i).2.2.2))).1) (upd ((pst w r thr (f, fe, 0, nI 0) i).2.1) (pcl w i) (stp thr (((pst w r thr (f, fe, 0, nI 0) i).1) (pcl w i)))) (mkk thr (((pst w r thr (f, fe, 0, nI 0) i).1) (pcl w i)) (pcl w i) ((pst w r thr (f, fe, 0, nI 0) i).2.2.1)) ((hnd (dirI w ((pcl w i) / 8)) r (pcl w i) ((upd ((pst w r thr (f, fe, 0, nI 0) i).2.1) (pcl w i) (stp thr (((pst w r thr (f, fe, 0, nI 0) i).1) (pcl w i)))) (pcl w i)) (cntR r) (((pst w r thr (f, fe, 0, nI 0) i).1), ((pst w r thr (f, fe, 0, nI 0) i).2.2.2))).2) (by omega) (pst_s1 _ _ _ _ _) rfl rfl (pst_s4 _ _ _ _ _) (by omega)
  refine g_lv [1, 2, 3, 4, 0] rfl ?_
  exact L28 (64 - 0 + 1) 0 f fe 0 (nI 0) (by omega) rfl rfl rfl rfl (by omega)
set_option maxRecDepth 100000 in
set_option maxHeartbeats 4000000 in
theorem c_X2_paintByCollecting (l : Launch) (E : gEnv) (h : Nat) (v : Nat) (er : Nat) (fv : Nat → Int32) (fe : Nat → Int32) (mk : Int64) (lo : Int32) (hq : Nat) (aq : Nat) (f : Nat → Int32) (r0 : Int32) (t0 : Int32) (w : Bool) (r : Nat) (thr : Int32) (hr : r < 4) : gM l yX2_paintByCollecting wsX2_paintByCollecting ({ frames := 2, cells := 0, slots := 0, locals := 54 } : Room) E [.ref h, .ref hq, .int (nI r), .int thr] [(h, .inr (2, [.ref v, .ref er, .long mk, .int lo])), (v, .inl (E.2.1 0, 64, .inl fv)), (er, .inl (E.2.1 0, 64, .inl fe)), (hq, .inr (3, [.ref aq, .int r0, .int t0, .int (gB w)])), (aq, .inl (E.2.1 0, 64, .inl f))] [(h, .inr (2, [.ref v, .ref er, .long ((cst w r thr f (fv, fe, 0, lo) 64).2.2.1), .int lo])), (v, .inl (E.2.1 0, 64, .inl ((cst w r thr f (fv, fe, 0, lo) 64).1))), (er, .inl (E.2.1 0, 64, .inl ((cst w r thr f (fv, fe, 0, lo) 64).2.1))), (hq, .inr (3, [.ref aq, .int r0, .int t0, .int (gB w)])), (aq, .inl (E.2.1 0, 64, .inl f))] none := by
  refine gM.ofG (cc := cX2_paintByCollecting) (nL := 6) (ret := none) (own := RX2) [(0, .ref h), (1, .ref hq), (2, .int (nI r)), (3, .int thr)] (by decide) rfl rfl (Nat.le_of_ble_eq_true rfl) rfl rfl ?_
  intro pX eX sX mX bX tX cX A cx
  have hiX2 : ∀ w ∈ u_ws RX2 TX2 4, w ∈ wsX2_paintByCollecting := by decide +kernel
  have hiX3 : ∀ w ∈ u_ws RX3 TX3 4, w ∈ wsX2_paintByCollecting := by decide +kernel
  refine g_aload_n cx dX2_paintByCollecting_0 rfl ?_
  refine g_lconst (v := 0) cx dX2_paintByCollecting_1 rfl ?_
  refine g_put (ws' := [(h, .inr (2, [.ref v, .ref er, .long 0, .int lo])), (v, .inl (E.2.1 0, 64, .inl fv)), (er, .inl (E.2.1 0, 64, .inl fe)), (hq, .inr (3, [.ref aq, .int r0, .int t0, .int (gB w)])), (aq, .inl (E.2.1 0, 64, .inl f))]) (C := RX2) (T := TX2) (N := 4) (ci := 2) cx hiX2 tyX2 tyX2_ok nmX2 0 2 (by decide) rfl (by decide +kernel) rfl rfl rfl rfl rfl (Nat.le_of_ble_eq_true rfl) rfl dX2_paintByCollecting_2 ?_
  refine g_iconst cx dX2_paintByCollecting_5 kc_i0 ?_
  refine g_istore (lv' := [(4, .int (nI 0)), (0, .ref h), (1, .ref hq), (2, .int (nI r)), (3, .int thr)]) cx dX2_paintByCollecting_6 (by decide) rfl ?_
  have L8 : ∀ (n_ : Nat) (i : Nat) (g1 : Nat → Int32) (g2 : Nat → Int32) (g3 : Int64), 64 - i < n_ → g1 = (cst w r thr f (fv, fe, 0, lo) i).1 → g2 = (cst w r thr f (fv, fe, 0, lo) i).2.1 → g3 = (cst w r thr f (fv, fe, 0, lo) i).2.2.1 → i ≤ 64 → gG pX l eX ({ frames := 2, cells := 0, slots := 0, locals := 54 } : Room) sX mX ([.ref h, .ref hq, .int (nI r), .int thr] : List Value).toArray bX tX cX 6 E A (MQ bX (gQ E [(h, .inr (2, [.ref v, .ref er, .long ((cst w r thr f (fv, fe, 0, lo) 64).2.2.1), .int lo])), (v, .inl (E.2.1 0, 64, .inl ((cst w r thr f (fv, fe, 0, lo) 64).1))), (er, .inl (E.2.1 0, 64, .inl ((cst w r thr f (fv, fe, 0, lo) 64).2.1))), (hq, .inr (3, [.ref aq, .int r0, .int t0, .int (gB w)])), (aq, .inl (E.2.1 0, 64, .inl f))] none A) ([.ref h, .ref hq, .int (nI r), .int thr] : List Value).toArray sX 0 0 A) 0 0 [(h, .inr (2, [.ref v, .ref er, .long g3, .int lo])), (v, .inl (E.2.1 0, 64, .inl g1)), (er, .inl (E.2.1 0, 64, .inl g2)), (hq, .inr (3, [.ref aq, .int r0, .int t0, .int (gB w)])), (aq, .inl (E.2.1 0, 64, .inl f))] [(0, .ref h), (1, .ref hq), (2, .int (nI r)), (3, .int thr), (4, .int (nI i))] [] 8 := by
    intro n_
    induction n_ with
    | zero => intro i g1 g2 g3 hm_; exact absurd hm_ (Nat.not_lt_zero _)
    | succ n_ ih_L8 =>
      intro i g1 g2 g3 hm_ e_g1 e_g2 e_g3 hi
      subst e_g1
      subst e_g2
      subst e_g3
      refine g_iload cx dX2_paintByCollecting_8 rfl ?_
      refine g_bipush cx dX2_paintByCollecting_10 kc_b64 ?_
      refine g_icmp_ge (tgt := 59) cx dX2_paintByCollecting_12 (by decide) (fun z1 => ?_) (fun z1 => ?_)
      ·
        have z1 := gn_le (a := 64) (b := i) (by omega) (by omega) z1
        obtain rfl : i = 64 := by omega
        exact g_vretE cx dX2_paintByCollecting_59 (rfl)
      ·
        have z1 := gn_nle (a := 64) (b := i) (by omega) (by omega) z1
        have hp := pcl_lt (w := w) (show i < 64 by omega)
        refine g_aload_n cx dX2_paintByCollecting_15 rfl ?_
        refine g_iload cx dX2_paintByCollecting_16 rfl ?_
        refine g_callV (ws' := [(h, .inr (2, [.ref v, .ref er, .long ((cst w r thr f (fv, fe, 0, lo) i).2.2.1), .int lo])), (v, .inl (E.2.1 0, 64, .inl ((cst w r thr f (fv, fe, 0, lo) i).1))), (er, .inl (E.2.1 0, 64, .inl ((cst w r thr f (fv, fe, 0, lo) i).2.1))), (hq, .inr (3, [.ref aq, .int r0, .int t0, .int (gB w)])), (aq, .inl (E.2.1 0, 64, .inl f))]) (As := [.int (nI i)]) (rest := []) (n := 1) (T := TX3) (N := 4) (ci := 3) cx (c_X3_cellPaintedAt l E hq aq f r0 t0 w i (by omega)) gX2_paintByCollecting_X3_cellPaintedAt rfl (by decide +kernel) rfl rfl ⟨Nat.le_of_ble_eq_true rfl, Nat.le_of_ble_eq_true rfl⟩ ⟨Nat.zero_le _, Nat.zero_le _⟩ [3, 4] 3 rfl rfl (by decide) rfl rfl rfl rfl (Nat.le_of_ble_eq_true rfl) dX2_paintByCollecting_18 ?_
        refine g_istore (lv' := [(5, .int (nI (pcl w i))), (0, .ref h), (1, .ref hq), (2, .int (nI r)), (3, .int thr), (4, .int (nI i))]) cx dX2_paintByCollecting_21 (by decide) rfl ?_
        refine g_aload_n cx dX2_paintByCollecting_23 rfl ?_
        refine g_get (C := RX2) (T := TX2) (N := 4) (ci := 2) cx hiX2 0 0 (by decide) rfl (by decide +kernel) rfl rfl dX2_paintByCollecting_24 ?_
        refine g_iload cx dX2_paintByCollecting_27 rfl ?_
        refine g_aload_n cx dX2_paintByCollecting_29 rfl ?_
        refine g_get (C := RX3) (T := TX3) (N := 4) (ci := 3) cx hiX3 3 0 (by decide) rfl (by decide +kernel) rfl rfl dX2_paintByCollecting_30 ?_
        refine g_iload cx dX2_paintByCollecting_33 rfl ?_
        refine g_iald cx 4 rfl rfl (vp_in_nI (by omega) (by omega)) (congrArg _ (nI_clamp (by omega))) dX2_paintByCollecting_35 ?_
        refine g_aload_n cx dX2_paintByCollecting_36 rfl ?_
        refine g_aload_n cx dX2_paintByCollecting_37 rfl ?_
        refine g_iload cx dX2_paintByCollecting_38 rfl ?_
        refine g_iload_n cx dX2_paintByCollecting_40 rfl ?_
        refine g_callV (ws' := [(h, .inr (2, [.ref v, .ref er, .long ((cst w r thr f (fv, fe, 0, lo) i).2.2.1), .int lo])), (v, .inl (E.2.1 0, 64, .inl ((cst w r thr f (fv, fe, 0, lo) i).1))), (er, .inl (E.2.1 0, 64, .inl ((cst w r thr f (fv, fe, 0, lo) i).2.1))), (hq, .inr (3, [.ref aq, .int r0, .int t0, .int (gB w)])), (aq, .inl (E.2.1 0, 64, .inl f))]) (As := [.ref hq, .int (nI (pcl w i)), .int (nI r)]) (rest := [.int (f (pcl w i)), .int (nI (pcl w i)), .ref v]) (n := 3) (T := TX2) (N := 4) (ci := 2) cx (c_X2_collect l E h v er ((cst w r thr f (fv, fe, 0, lo) i).1) ((cst w r thr f (fv, fe, 0, lo) i).2.1) ((cst w r thr f (fv, fe, 0, lo) i).2.2.1) lo hq aq f r0 t0 w (pcl w i) r (by omega) (by omega)) gX2_paintByCollecting_X2_collect rfl (by decide +kernel) rfl rfl ⟨Nat.le_of_ble_eq_true rfl, Nat.le_of_ble_eq_true rfl⟩ ⟨Nat.zero_le _, Nat.zero_le _⟩ [0, 1, 2, 3, 4] 0 rfl rfl (by decide) rfl rfl rfl rfl (Nat.le_of_ble_eq_true rfl) dX2_paintByCollecting_41 ?_
        refine g_iadd cx dX2_paintByCollecting_44 ?_
        refine g_iast (ws' := [(h, .inr (2, [.ref v, .ref er, .long ((cst w r thr f (fv, fe, 0, lo) i).2.2.1), .int lo])), (v, .inl (E.2.1 0, 64, .inl (upd ((cst w r thr f (fv, fe, 0, lo) i).1) (pcl w i) ((f (pcl w i)) + (clt w r (pcl w i) ((cst w r thr f (fv, fe, 0, lo) i).2.1) (cntR r)))))), (er, .inl (E.2.1 0, 64, .inl ((cst w r thr f (fv, fe, 0, lo) i).2.1))), (hq, .inr (3, [.ref aq, .int r0, .int t0, .int (gB w)])), (aq, .inl (E.2.1 0, 64, .inl f))]) cx 1 rfl rfl (vp_in_nI (by omega) (by omega)) (by rw [nI_clamp (by omega)]; rfl) dX2_paintByCollecting_45 ?_
        refine g_aload_n cx dX2_paintByCollecting_46 rfl ?_
        refine g_iload cx dX2_paintByCollecting_47 rfl ?_
        refine g_iload_n cx dX2_paintByCollecting_49 rfl ?_
        refine g_callV (ws' := [(h, .inr (2, [.ref v, .ref er, .long (mkk thr ((upd ((cst w r thr f (fv, fe, 0, lo) i).1) (pcl w i) ((f (pcl w i)) + (clt w r (pcl w i) ((cst w r thr f (fv, fe, 0, lo) i).2.1) (cntR r)))) (pcl w i)) (pcl w i) ((cst w r thr f (fv, fe, 0, lo) i).2.2.1)), .int lo])), (v, .inl (E.2.1 0, 64, .inl (upd ((cst w r thr f (fv, fe, 0, lo) i).1) (pcl w i) ((f (pcl w i)) + (clt w r (pcl w i) ((cst w r thr f (fv, fe, 0, lo) i).2.1) (cntR r)))))), (er, .inl (E.2.1 0, 64, .inl (upd ((cst w r thr f (fv, fe, 0, lo) i).2.1) (pcl w i) (stp thr ((upd ((cst w r thr f (fv, fe, 0, lo) i).1) (pcl w i) ((f (pcl w i)) + (clt w r (pcl w i) ((cst w r thr f (fv, fe, 0, lo) i).2.1) (cntR r)))) (pcl w i)))))), (hq, .inr (3, [.ref aq, .int r0, .int t0, .int (gB w)])), (aq, .inl (E.2.1 0, 64, .inl f))]) (As := [.int (nI (pcl w i)), .int thr]) (rest := []) (n := 2) (T := TX2) (N := 4) (ci := 2) cx (c_X2_decide l E h v er (upd ((cst w r thr f (fv, fe, 0, lo) i).1) (pcl w i) ((f (pcl w i)) + (clt w r (pcl w i) ((cst w r thr f (fv, fe, 0, lo) i).2.1) (cntR r)))) ((cst w r thr f (fv, fe, 0, lo) i).2.1) ((cst w r thr f (fv, fe, 0, lo) i).2.2.1) lo (pcl w i) thr (by omega)) gX2_paintByCollecting_X2_decide rfl (by decide +kernel) rfl rfl ⟨Nat.le_of_ble_eq_true rfl, Nat.le_of_ble_eq_true rfl⟩ ⟨Nat.zero_le _, Nat.zero_le _⟩ [0, 1, 2] 0 rfl rfl (by decide) rfl rfl rfl rfl (Nat.le_of_ble_eq_true rfl) dX2_paintByCollecting_50 ?_
        refine g_iinc (lv' := [(4, .int (nI (i + 1))), (5, .int (nI (pcl w i))), (0, .ref h), (1, .ref hq), (2, .int (nI r)), (3, .int thr)]) (k := 5) cx dX2_paintByCollecting_53 rfl (gn_inc1 i) (by decide) rfl ?_
        refine g_goto (tgt := 8) cx dX2_paintByCollecting_56 (by decide) ?_
        refine g_lv [2, 3, 4, 5, 0] rfl ?_
        exact ih_L8 (i + 1) (upd ((cst w r thr f (fv, fe, 0, lo) i).1) (pcl w i) ((f (pcl w i)) + (clt w r (pcl w i) ((cst w r thr f (fv, fe, 0, lo) i).2.1) (cntR r)))) (upd ((cst w r thr f (fv, fe, 0, lo) i).2.1) (pcl w i) (stp thr ((upd ((cst w r thr f (fv, fe, 0, lo) i).1) (pcl w i) ((f (pcl w i)) + (clt w r (pcl w i) ((cst w r thr f (fv, fe, 0, lo) i).2.1) (cntR r)))) (pcl w i)))) (mkk thr ((upd ((cst w r thr f (fv, fe, 0, lo) i).1) (pcl w i) ((f (pcl w i)) + (clt w r (pcl w i) ((cst w r thr f (fv, fe, 0, lo) i).2.1) (cntR r)))) (pcl w i)) (pcl w i) ((cst w r thr f (fv, fe, 0, lo) i).2.2.1)) (by omega) rfl (cst_s2 _ _ _ _ _ _) (cst_s3 _ _ _ _ _ _) (by omega)
  refine g_lv [1, 2, 3, 4, 0] rfl ?_
  exact L8 (64 - 0 + 1) 0 fv fe 0 (by omega) rfl rfl rfl (by omega)
set_option maxRecDepth 100000 in
set_option maxHeartbeats 4000000 in
theorem c_X2_differenceOf (l : Launch) (E : gEnv) (h : Nat) (v : Nat) (er : Nat) (fv : Nat → Int32) (fe : Nat → Int32) (mk : Int64) (lo : Int32) (hq : Nat) (aq : Nat) (f : Nat → Int32) (r0 : Int32) (t0 : Int32) (w : Bool) (q : Nat) (hq6 : q < 64) : gM l yX2_differenceOf wsX2_differenceOf ({ frames := 0, cells := 0, slots := 0, locals := 0 } : Room) E [.ref h, .ref hq, .int (nI q)] [(h, .inr (2, [.ref v, .ref er, .long mk, .int lo])), (v, .inl (E.2.1 0, 64, .inl fv)), (er, .inl (E.2.1 0, 64, .inl fe)), (hq, .inr (3, [.ref aq, .int r0, .int t0, .int (gB w)])), (aq, .inl (E.2.1 0, 64, .inl f))] [(h, .inr (2, [.ref v, .ref er, .long mk, .int lo])), (v, .inl (E.2.1 0, 64, .inl fv)), (er, .inl (E.2.1 0, 64, .inl fe)), (hq, .inr (3, [.ref aq, .int r0, .int t0, .int (gB w)])), (aq, .inl (E.2.1 0, 64, .inl f))] (some (.int (dfo mk f q))) := by
  refine gM.ofG (cc := cX2_differenceOf) (nL := 4) (ret := (some .int)) (own := RX2) [(0, .ref h), (1, .ref hq), (2, .int (nI q))] (by decide) rfl rfl (Nat.le_of_ble_eq_true rfl) rfl rfl ?_
  intro pX eX sX mX bX tX cX A cx
  have hiX2 : ∀ w ∈ u_ws RX2 TX2 4, w ∈ wsX2_differenceOf := by decide +kernel
  have hiX3 : ∀ w ∈ u_ws RX3 TX3 4, w ∈ wsX2_differenceOf := by decide +kernel
  refine g_aload_n cx dX2_differenceOf_0 rfl ?_
  refine g_get (C := RX2) (T := TX2) (N := 4) (ci := 2) cx hiX2 0 2 (by decide) rfl (by decide +kernel) rfl rfl dX2_differenceOf_1 ?_
  refine g_iload_n cx dX2_differenceOf_4 rfl ?_
  refine g_lushr cx dX2_differenceOf_5 rfl ?_
  refine g_lconst (v := 1) cx dX2_differenceOf_6 rfl ?_
  refine g_land cx dX2_differenceOf_7 ?_
  refine g_lconst (v := 1) cx dX2_differenceOf_8 rfl ?_
  refine g_lcmp cx dX2_differenceOf_9 ?_
  refine g_if_ne (tgt := 17) cx dX2_differenceOf_10 (by decide) (fun z1 => ?_) (fun z1 => ?_)
  ·
    refine g_iconst cx dX2_differenceOf_17 kc_i0 ?_
    refine g_istore_n (lv' := [(3, .int (nI 0)), (0, .ref h), (1, .ref hq), (2, .int (nI q))]) cx dX2_differenceOf_18 rfl (by decide) rfl ?_
    refine g_iload_n cx dX2_differenceOf_19 rfl ?_
    refine g_if_eq (tgt := 36) cx dX2_differenceOf_20 (by decide) (fun z2 => ?_) (fun z2 => absurd z2 (by decide +kernel))
    have z2 := gn_eq0 (by omega) z2
    refine g_aload_n cx dX2_differenceOf_36 rfl ?_
    refine g_get (C := RX3) (T := TX3) (N := 4) (ci := 3) cx hiX3 3 0 (by decide) rfl (by decide +kernel) rfl rfl dX2_differenceOf_37 ?_
    refine g_iload_n cx dX2_differenceOf_40 rfl ?_
    refine g_iald cx 4 rfl rfl (vp_in_nI (by omega) (by omega)) (congrArg _ (nI_clamp (by omega))) dX2_differenceOf_41 ?_
    exact g_iretE cx dX2_differenceOf_42 (rfl) (by first | exact (if_pos (lg_cmp_0.mp (by assumption))).symm | exact (if_neg (lg_ne (by assumption))).symm)
  ·
    refine g_iconst cx dX2_differenceOf_13 kc_i1 ?_
    refine g_goto (tgt := 18) cx dX2_differenceOf_14 (by decide) ?_
    refine g_istore_n (lv' := [(3, .int (nI 1)), (0, .ref h), (1, .ref hq), (2, .int (nI q))]) cx dX2_differenceOf_18 rfl (by decide) rfl ?_
    refine g_iload_n cx dX2_differenceOf_19 rfl ?_
    refine g_if_eq (tgt := 36) cx dX2_differenceOf_20 (by decide) (fun z3 => absurd z3 (by decide +kernel)) (fun z3 => ?_)
    have z3 := gn_ne0 z3
    refine g_aload_n cx dX2_differenceOf_23 rfl ?_
    refine g_get (C := RX3) (T := TX3) (N := 4) (ci := 3) cx hiX3 3 0 (by decide) rfl (by decide +kernel) rfl rfl dX2_differenceOf_24 ?_
    refine g_iload_n cx dX2_differenceOf_27 rfl ?_
    refine g_iald cx 4 rfl rfl (vp_in_nI (by omega) (by omega)) (congrArg _ (nI_clamp (by omega))) dX2_differenceOf_28 ?_
    refine g_sipush cx dX2_differenceOf_29 kc_s255 ?_
    refine g_isub cx dX2_differenceOf_32 ?_
    refine g_goto (tgt := 42) cx dX2_differenceOf_33 (by decide) ?_
    exact g_iretE cx dX2_differenceOf_42 (rfl) (by first | exact (if_pos (lg_cmp_0.mp (by assumption))).symm | exact (if_neg (lg_ne (by assumption))).symm)
set_option maxRecDepth 100000 in
set_option maxHeartbeats 4000000 in
theorem c_X2_differenceOfSquare (l : Launch) (E : gEnv) (h : Nat) (v : Nat) (er : Nat) (fv : Nat → Int32) (fe : Nat → Int32) (mk : Int64) (lo : Int32) (hq : Nat) (aq : Nat) (f : Nat → Int32) (r0 : Int32) (t0 : Int32) (w : Bool) (q : Nat) (hq6 : q < 16) : gM l yX2_differenceOfSquare wsX2_differenceOfSquare ({ frames := 1, cells := 0, slots := 0, locals := 40 } : Room) E [.ref h, .ref hq, .int (nI q)] [(h, .inr (2, [.ref v, .ref er, .long mk, .int lo])), (v, .inl (E.2.1 0, 64, .inl fv)), (er, .inl (E.2.1 0, 64, .inl fe)), (hq, .inr (3, [.ref aq, .int r0, .int t0, .int (gB w)])), (aq, .inl (E.2.1 0, 64, .inl f))] [(h, .inr (2, [.ref v, .ref er, .long mk, .int lo])), (v, .inl (E.2.1 0, 64, .inl fv)), (er, .inl (E.2.1 0, 64, .inl fe)), (hq, .inr (3, [.ref aq, .int r0, .int t0, .int (gB w)])), (aq, .inl (E.2.1 0, 64, .inl f))] (some (.int (aI (dsq mk f (cor q))))) := by
  refine gM.ofG (cc := cX2_differenceOfSquare) (nL := 4) (ret := (some .int)) (own := RX2) [(0, .ref h), (1, .ref hq), (2, .int (nI q))] (by decide) rfl rfl (Nat.le_of_ble_eq_true rfl) rfl rfl ?_
  intro pX eX sX mX bX tX cX A cx
  refine g_bipush cx dX2_differenceOfSquare_0 kc_b16 ?_
  refine g_iload_n cx dX2_differenceOfSquare_2 rfl ?_
  refine g_iconst cx dX2_differenceOfSquare_3 kc_i4 ?_
  refine g_idiv cx dX2_differenceOfSquare_4 (by decide) ?_
  refine g_top (pk_div (a := q) (d := 4) (by omega) (by omega) (by omega)) ?_
  refine g_imul cx dX2_differenceOfSquare_5 ?_
  refine g_top (pk_mul 16 (q / 4)) ?_
  refine g_iconst cx dX2_differenceOfSquare_6 kc_i2 ?_
  refine g_iload_n cx dX2_differenceOfSquare_7 rfl ?_
  refine g_iconst cx dX2_differenceOfSquare_8 kc_i4 ?_
  refine g_irem cx dX2_differenceOfSquare_9 (by decide) ?_
  refine g_top (pk_rem (a := q) (d := 4) (by omega) (by omega) (by omega)) ?_
  refine g_imul cx dX2_differenceOfSquare_10 ?_
  refine g_top (pk_mul 2 (q % 4)) ?_
  refine g_iadd cx dX2_differenceOfSquare_11 ?_
  refine g_top (nI_add (16 * (q / 4)) (2 * (q % 4))) ?_
  refine g_istore_n (lv' := [(3, .int (nI ((16 * (q / 4)) + (2 * (q % 4))))), (0, .ref h), (1, .ref hq), (2, .int (nI q))]) cx dX2_differenceOfSquare_12 rfl (by decide) rfl ?_
  refine g_aload_n cx dX2_differenceOfSquare_13 rfl ?_
  refine g_aload_n cx dX2_differenceOfSquare_14 rfl ?_
  refine g_iload_n cx dX2_differenceOfSquare_15 rfl ?_
  refine g_callV (ws' := [(h, .inr (2, [.ref v, .ref er, .long mk, .int lo])), (v, .inl (E.2.1 0, 64, .inl fv)), (er, .inl (E.2.1 0, 64, .inl fe)), (hq, .inr (3, [.ref aq, .int r0, .int t0, .int (gB w)])), (aq, .inl (E.2.1 0, 64, .inl f))]) (As := [.ref hq, .int (nI ((16 * (q / 4)) + (2 * (q % 4))))]) (rest := []) (n := 2) (T := TX2) (N := 4) (ci := 2) cx (c_X2_differenceOf l E h v er fv fe mk lo hq aq f r0 t0 w ((16 * (q / 4)) + (2 * (q % 4))) (by omega)) gX2_differenceOfSquare_X2_differenceOf rfl (by decide +kernel) rfl rfl ⟨Nat.le_of_ble_eq_true rfl, Nat.le_of_ble_eq_true rfl⟩ ⟨Nat.zero_le _, Nat.zero_le _⟩ [0, 1, 2, 3, 4] 0 rfl rfl (by decide) rfl rfl rfl rfl (Nat.le_of_ble_eq_true rfl) dX2_differenceOfSquare_16 ?_
  refine g_aload_n cx dX2_differenceOfSquare_19 rfl ?_
  refine g_aload_n cx dX2_differenceOfSquare_20 rfl ?_
  refine g_iload_n cx dX2_differenceOfSquare_21 rfl ?_
  refine g_iconst cx dX2_differenceOfSquare_22 kc_i1 ?_
  refine g_iadd cx dX2_differenceOfSquare_23 ?_
  refine g_top (nI_add ((16 * (q / 4)) + (2 * (q % 4))) 1) ?_
  refine g_callV (ws' := [(h, .inr (2, [.ref v, .ref er, .long mk, .int lo])), (v, .inl (E.2.1 0, 64, .inl fv)), (er, .inl (E.2.1 0, 64, .inl fe)), (hq, .inr (3, [.ref aq, .int r0, .int t0, .int (gB w)])), (aq, .inl (E.2.1 0, 64, .inl f))]) (As := [.ref hq, .int (nI (((16 * (q / 4)) + (2 * (q % 4))) + 1))]) (rest := [.int (dfo mk f ((16 * (q / 4)) + (2 * (q % 4))))]) (n := 2) (T := TX2) (N := 4) (ci := 2) cx (c_X2_differenceOf l E h v er fv fe mk lo hq aq f r0 t0 w (((16 * (q / 4)) + (2 * (q % 4))) + 1) (by omega)) gX2_differenceOfSquare_X2_differenceOf rfl (by decide +kernel) rfl rfl ⟨Nat.le_of_ble_eq_true rfl, Nat.le_of_ble_eq_true rfl⟩ ⟨Nat.zero_le _, Nat.zero_le _⟩ [0, 1, 2, 3, 4] 0 rfl rfl (by decide) rfl rfl rfl rfl (Nat.le_of_ble_eq_true rfl) dX2_differenceOfSquare_24 ?_
  refine g_iadd cx dX2_differenceOfSquare_27 ?_
  refine g_aload_n cx dX2_differenceOfSquare_28 rfl ?_
  refine g_aload_n cx dX2_differenceOfSquare_29 rfl ?_
  refine g_iload_n cx dX2_differenceOfSquare_30 rfl ?_
  refine g_bipush cx dX2_differenceOfSquare_31 kc_b8 ?_
  refine g_iadd cx dX2_differenceOfSquare_33 ?_
  refine g_top (nI_add ((16 * (q / 4)) + (2 * (q % 4))) 8) ?_
  refine g_callV (ws' := [(h, .inr (2, [.ref v, .ref er, .long mk, .int lo])), (v, .inl (E.2.1 0, 64, .inl fv)), (er, .inl (E.2.1 0, 64, .inl fe)), (hq, .inr (3, [.ref aq, .int r0, .int t0, .int (gB w)])), (aq, .inl (E.2.1 0, 64, .inl f))]) (As := [.ref hq, .int (nI (((16 * (q / 4)) + (2 * (q % 4))) + 8))]) (rest := [.int ((dfo mk f ((16 * (q / 4)) + (2 * (q % 4)))) + (dfo mk f (((16 * (q / 4)) + (2 * (q % 4))) + 1)))]) (n := 2) (T := TX2) (N := 4) (ci := 2) cx (c_X2_differenceOf l E h v er fv fe mk lo hq aq f r0 t0 w (((16 * (q / 4)) + (2 * (q % 4))) + 8) (by omega)) gX2_differenceOfSquare_X2_differenceOf rfl (by decide +kernel) rfl rfl ⟨Nat.le_of_ble_eq_true rfl, Nat.le_of_ble_eq_true rfl⟩ ⟨Nat.zero_le _, Nat.zero_le _⟩ [0, 1, 2, 3, 4] 0 rfl rfl (by decide) rfl rfl rfl rfl (Nat.le_of_ble_eq_true rfl) dX2_differenceOfSquare_34 ?_
  refine g_iadd cx dX2_differenceOfSquare_37 ?_
  refine g_aload_n cx dX2_differenceOfSquare_38 rfl ?_
  refine g_aload_n cx dX2_differenceOfSquare_39 rfl ?_
  refine g_iload_n cx dX2_differenceOfSquare_40 rfl ?_
  refine g_bipush cx dX2_differenceOfSquare_41 kc_b8 ?_
  refine g_iadd cx dX2_differenceOfSquare_43 ?_
  refine g_top (nI_add ((16 * (q / 4)) + (2 * (q % 4))) 8) ?_
  refine g_iconst cx dX2_differenceOfSquare_44 kc_i1 ?_
  refine g_iadd cx dX2_differenceOfSquare_45 ?_
  refine g_top (nI_add (((16 * (q / 4)) + (2 * (q % 4))) + 8) 1) ?_
  refine g_callV (ws' := [(h, .inr (2, [.ref v, .ref er, .long mk, .int lo])), (v, .inl (E.2.1 0, 64, .inl fv)), (er, .inl (E.2.1 0, 64, .inl fe)), (hq, .inr (3, [.ref aq, .int r0, .int t0, .int (gB w)])), (aq, .inl (E.2.1 0, 64, .inl f))]) (As := [.ref hq, .int (nI ((((16 * (q / 4)) + (2 * (q % 4))) + 8) + 1))]) (rest := [.int (((dfo mk f ((16 * (q / 4)) + (2 * (q % 4)))) + (dfo mk f (((16 * (q / 4)) + (2 * (q % 4))) + 1))) + (dfo mk f (((16 * (q / 4)) + (2 * (q % 4))) + 8)))]) (n := 2) (T := TX2) (N := 4) (ci := 2) cx (c_X2_differenceOf l E h v er fv fe mk lo hq aq f r0 t0 w ((((16 * (q / 4)) + (2 * (q % 4))) + 8) + 1) (by omega)) gX2_differenceOfSquare_X2_differenceOf rfl (by decide +kernel) rfl rfl ⟨Nat.le_of_ble_eq_true rfl, Nat.le_of_ble_eq_true rfl⟩ ⟨Nat.zero_le _, Nat.zero_le _⟩ [0, 1, 2, 3, 4] 0 rfl rfl (by decide) rfl rfl rfl rfl (Nat.le_of_ble_eq_true rfl) dX2_differenceOfSquare_46 ?_
  refine g_iadd cx dX2_differenceOfSquare_49 ?_
  refine g_mabs cx (by decide +kernel) (by decide +kernel) (by decide +kernel) (by decide +kernel) (Nat.le_of_ble_eq_true rfl) (Nat.le_of_ble_eq_true rfl) ⟨Nat.zero_le _, Nat.zero_le _⟩ dX2_differenceOfSquare_50 ?_
  exact g_iretE cx dX2_differenceOfSquare_53 (rfl) (rfl)
set_option maxRecDepth 100000 in
set_option maxHeartbeats 4000000 in
theorem c_X2_differenceOfAllSquares (l : Launch) (E : gEnv) (h : Nat) (v : Nat) (er : Nat) (fv : Nat → Int32) (fe : Nat → Int32) (mk : Int64) (lo : Int32) (hq : Nat) (aq : Nat) (f : Nat → Int32) (r0 : Int32) (t0 : Int32) (w : Bool)  : gM l yX2_differenceOfAllSquares wsX2_differenceOfAllSquares ({ frames := 2, cells := 0, slots := 0, locals := 63 } : Room) E [.ref h, .ref hq] [(h, .inr (2, [.ref v, .ref er, .long mk, .int lo])), (v, .inl (E.2.1 0, 64, .inl fv)), (er, .inl (E.2.1 0, 64, .inl fe)), (hq, .inr (3, [.ref aq, .int r0, .int t0, .int (gB w)])), (aq, .inl (E.2.1 0, 64, .inl f))] [(h, .inr (2, [.ref v, .ref er, .long mk, .int lo])), (v, .inl (E.2.1 0, 64, .inl fv)), (er, .inl (E.2.1 0, 64, .inl fe)), (hq, .inr (3, [.ref aq, .int r0, .int t0, .int (gB w)])), (aq, .inl (E.2.1 0, 64, .inl f))] (some (.int (dall mk f 16))) := by
  refine gM.ofG (cc := cX2_differenceOfAllSquares) (nL := 4) (ret := (some .int)) (own := RX2) [(0, .ref h), (1, .ref hq)] (by decide) rfl rfl (Nat.le_of_ble_eq_true rfl) rfl rfl ?_
  intro pX eX sX mX bX tX cX A cx
  refine g_iconst cx dX2_differenceOfAllSquares_0 kc_i0 ?_
  refine g_istore_n (lv' := [(2, .int (nI 0)), (0, .ref h), (1, .ref hq)]) cx dX2_differenceOfAllSquares_1 rfl (by decide) rfl ?_
  refine g_iconst cx dX2_differenceOfAllSquares_2 kc_i0 ?_
  refine g_istore_n (lv' := [(3, .int (nI 0)), (2, .int (nI 0)), (0, .ref h), (1, .ref hq)]) cx dX2_differenceOfAllSquares_3 rfl (by decide) rfl ?_
  have L4 : ∀ (n_ : Nat) (i : Nat) (x : Int32), 16 - i < n_ → x = dall mk f i → i ≤ 16 → gG pX l eX ({ frames := 2, cells := 0, slots := 0, locals := 63 } : Room) sX mX ([.ref h, .ref hq] : List Value).toArray bX tX cX 4 E A (MQ bX (gQ E [(h, .inr (2, [.ref v, .ref er, .long mk, .int lo])), (v, .inl (E.2.1 0, 64, .inl fv)), (er, .inl (E.2.1 0, 64, .inl fe)), (hq, .inr (3, [.ref aq, .int r0, .int t0, .int (gB w)])), (aq, .inl (E.2.1 0, 64, .inl f))] (some (.int (dall mk f 16))) A) ([.ref h, .ref hq] : List Value).toArray sX 0 0 A) 0 0 [(h, .inr (2, [.ref v, .ref er, .long mk, .int lo])), (v, .inl (E.2.1 0, 64, .inl fv)), (er, .inl (E.2.1 0, 64, .inl fe)), (hq, .inr (3, [.ref aq, .int r0, .int t0, .int (gB w)])), (aq, .inl (E.2.1 0, 64, .inl f))] [(0, .ref h), (1, .ref hq), (2, .int x), (3, .int (nI i))] [] 4 := by
    intro n_
    induction n_ with
    | zero => intro i x hm_; exact absurd hm_ (Nat.not_lt_zero _)
    | succ n_ ih_L4 =>
      intro i x hm_ e_x hi
      subst e_x
      refine g_iload_n cx dX2_differenceOfAllSquares_4 rfl ?_
      refine g_bipush cx dX2_differenceOfAllSquares_5 kc_b16 ?_
      refine g_icmp_ge (tgt := 25) cx dX2_differenceOfAllSquares_7 (by decide) (fun z1 => ?_) (fun z1 => ?_)
      ·
        have z1 := gn_le (a := 16) (b := i) (by omega) (by omega) z1
        obtain rfl : i = 16 := by omega
        refine g_iload_n cx dX2_differenceOfAllSquares_25 rfl ?_
        exact g_iretE cx dX2_differenceOfAllSquares_26 (rfl) (rfl)
      ·
        have z1 := gn_nle (a := 16) (b := i) (by omega) (by omega) z1
        refine g_iload_n cx dX2_differenceOfAllSquares_10 rfl ?_
        refine g_aload_n cx dX2_differenceOfAllSquares_11 rfl ?_
        refine g_aload_n cx dX2_differenceOfAllSquares_12 rfl ?_
        refine g_iload_n cx dX2_differenceOfAllSquares_13 rfl ?_
        refine g_callV (ws' := [(h, .inr (2, [.ref v, .ref er, .long mk, .int lo])), (v, .inl (E.2.1 0, 64, .inl fv)), (er, .inl (E.2.1 0, 64, .inl fe)), (hq, .inr (3, [.ref aq, .int r0, .int t0, .int (gB w)])), (aq, .inl (E.2.1 0, 64, .inl f))]) (As := [.ref hq, .int (nI i)]) (rest := [.int (dall mk f i)]) (n := 2) (T := TX2) (N := 4) (ci := 2) cx (c_X2_differenceOfSquare l E h v er fv fe mk lo hq aq f r0 t0 w i (by omega)) gX2_differenceOfAllSquares_X2_differenceOfSquare rfl (by decide +kernel) rfl rfl ⟨Nat.le_of_ble_eq_true rfl, Nat.le_of_ble_eq_true rfl⟩ ⟨Nat.zero_le _, Nat.zero_le _⟩ [0, 1, 2, 3, 4] 0 rfl rfl (by decide) rfl rfl rfl rfl (Nat.le_of_ble_eq_true rfl) dX2_differenceOfAllSquares_14 ?_
        refine g_iadd cx dX2_differenceOfAllSquares_17 ?_
        refine g_istore_n (lv' := [(2, .int ((dall mk f i) + (aI (dsq mk f (cor i))))), (0, .ref h), (1, .ref hq), (3, .int (nI i))]) cx dX2_differenceOfAllSquares_18 rfl (by decide) rfl ?_
        refine g_iinc (lv' := [(3, .int (nI (i + 1))), (2, .int ((dall mk f i) + (aI (dsq mk f (cor i))))), (0, .ref h), (1, .ref hq)]) (k := 3) cx dX2_differenceOfAllSquares_19 rfl (gn_inc1 i) (by decide) rfl ?_
        refine g_goto (tgt := 4) cx dX2_differenceOfAllSquares_22 (by decide) ?_
        refine g_lv [2, 3, 1, 0] rfl ?_
        exact ih_L4 (i + 1) ((dall mk f i) + (aI (dsq mk f (cor i)))) (by omega) rfl (by omega)
  refine g_lv [2, 3, 1, 0] rfl ?_
  exact L4 (16 - 0 + 1) 0 (nI 0) (by omega) rfl (by omega)
