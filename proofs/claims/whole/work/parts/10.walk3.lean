set_option maxRecDepth 100000 in
set_option maxHeartbeats 4000000 in
theorem c_X1_dropOldest (l : Launch) (E : gEnv) (hh : Nat) (st : Nat) (q : Nat → Nat) (a : Nat → Nat) (F : Nat → Nat → Int32) (Rr : Nat → Int32) (Tt : Nat → Int32) (Ww : Nat → Bool) (o : Nat) (n : Nat) (hn : 0 < n) (hn6 : n ≤ 6) : gM l yX1_dropOldest wsX1_dropOldest ({ frames := 0, cells := 0, slots := 0, locals := 0 } : Room) E [.ref hh] [(hh, .inr (1, [.ref st, .int (nI n)])), (st, .inl (E.2.1 3, 6, .inr (.inr (.inr (.inr (fun k => some (q ((k + o) % 6)))))))), (q 0, .inr (3, [.ref (a 0), .int (Rr 0), .int (Tt 0), .int (gB (Ww 0))])), (a 0, .inl (E.2.1 0, 64, .inl (F 0))), (q 1, .inr (3, [.ref (a 1), .int (Rr 1), .int (Tt 1), .int (gB (Ww 1))])), (a 1, .inl (E.2.1 0, 64, .inl (F 1))), (q 2, .inr (3, [.ref (a 2), .int (Rr 2), .int (Tt 2), .int (gB (Ww 2))])), (a 2, .inl (E.2.1 0, 64, .inl (F 2))), (q 3, .inr (3, [.ref (a 3), .int (Rr 3), .int (Tt 3), .int (gB (Ww 3))])), (a 3, .inl (E.2.1 0, 64, .inl (F 3))), (q 4, .inr (3, [.ref (a 4), .int (Rr 4), .int (Tt 4), .int (gB (Ww 4))])), (a 4, .inl (E.2.1 0, 64, .inl (F 4))), (q 5, .inr (3, [.ref (a 5), .int (Rr 5), .int (Tt 5), .int (gB (Ww 5))])), (a 5, .inl (E.2.1 0, 64, .inl (F 5)))] [(hh, .inr (1, [.ref st, .int (nI (n - 1))])), (st, .inl (E.2.1 3, 6, .inr (.inr (.inr (.inr (fun k => some (q ((k + (o + 1)) % 6)))))))), (q 0, .inr (3, [.ref (a 0), .int (Rr 0), .int (Tt 0), .int (gB (Ww 0))])), (a 0, .inl (E.2.1 0, 64, .inl (F 0))), (q 1, .inr (3, [.ref (a 1), .int (Rr 1), .int (Tt 1), .int (gB (Ww 1))])), (a 1, .inl (E.2.1 0, 64, .inl (F 1))), (q 2, .inr (3, [.ref (a 2), .int (Rr 2), .int (Tt 2), .int (gB (Ww 2))])), (a 2, .inl (E.2.1 0, 64, .inl (F 2))), (q 3, .inr (3, [.ref (a 3), .int (Rr 3), .int (Tt 3), .int (gB (Ww 3))])), (a 3, .inl (E.2.1 0, 64, .inl (F 3))), (q 4, .inr (3, [.ref (a 4), .int (Rr 4), .int (Tt 4), .int (gB (Ww 4))])), (a 4, .inl (E.2.1 0, 64, .inl (F 4))), (q 5, .inr (3, [.ref (a 5), .int (Rr 5), .int (Tt 5), .int (gB (Ww 5))])), (a 5, .inl (E.2.1 0, 64, .inl (F 5)))] none := by
  refine gM.ofG (cc := cX1_dropOldest) (nL := 3) (ret := none) (own := RX1) [(0, .ref hh)] (by decide) rfl rfl (Nat.le_of_ble_eq_true rfl) rfl rfl ?_
  intro pX eX sX mX bX tX cX A cx
  have hiX1 : ∀ w ∈ u_ws RX1 TX1 2, w ∈ wsX1_dropOldest := by decide +kernel
  refine g_aload_n cx dX1_dropOldest_0 rfl ?_
  refine g_get (C := RX1) (T := TX1) (N := 2) (ci := 1) cx hiX1 0 0 (by decide) rfl (by decide +kernel) rfl rfl dX1_dropOldest_1 ?_
  refine g_iconst cx dX1_dropOldest_4 kc_i0 ?_
  refine g_aald cx 1 rfl rfl (vp_in_nI (by omega) (by omega)) (by rw [nI_clamp (by omega)]) dX1_dropOldest_5 ?_
  refine g_astore_n (lv' := [(1, .ref (q ((0 + o) % 6))), (0, .ref hh)]) cx dX1_dropOldest_6 rfl (by decide) rfl ?_
  refine g_iconst cx dX1_dropOldest_7 kc_i1 ?_
  refine g_istore_n (lv' := [(2, .int (nI 1)), (1, .ref (q ((0 + o) % 6))), (0, .ref hh)]) cx dX1_dropOldest_8 rfl (by decide) rfl ?_
  have L9 : ∀ (n_ : Nat) (i : Nat) (g : Nat → Option Nat), 6 - i < n_ → g = drp q o i → i ≤ 6 → 1 ≤ i → gG pX l eX ({ frames := 0, cells := 0, slots := 0, locals := 0 } : Room) sX mX ([.ref hh] : List Value).toArray bX tX cX 3 E A (MQ bX (gQ E [(hh, .inr (1, [.ref st, .int (nI (n - 1))])), (st, .inl (E.2.1 3, 6, .inr (.inr (.inr (.inr (fun k => some (q ((k + (o + 1)) % 6)))))))), (q 0, .inr (3, [.ref (a 0), .int (Rr 0), .int (Tt 0), .int (gB (Ww 0))])), (a 0, .inl (E.2.1 0, 64, .inl (F 0))), (q 1, .inr (3, [.ref (a 1), .int (Rr 1), .int (Tt 1), .int (gB (Ww 1))])), (a 1, .inl (E.2.1 0, 64, .inl (F 1))), (q 2, .inr (3, [.ref (a 2), .int (Rr 2), .int (Tt 2), .int (gB (Ww 2))])), (a 2, .inl (E.2.1 0, 64, .inl (F 2))), (q 3, .inr (3, [.ref (a 3), .int (Rr 3), .int (Tt 3), .int (gB (Ww 3))])), (a 3, .inl (E.2.1 0, 64, .inl (F 3))), (q 4, .inr (3, [.ref (a 4), .int (Rr 4), .int (Tt 4), .int (gB (Ww 4))])), (a 4, .inl (E.2.1 0, 64, .inl (F 4))), (q 5, .inr (3, [.ref (a 5), .int (Rr 5), .int (Tt 5), .int (gB (Ww 5))])), (a 5, .inl (E.2.1 0, 64, .inl (F 5)))] none A) ([.ref hh] : List Value).toArray sX 0 0 A) 0 0 [(hh, .inr (1, [.ref st, .int (nI n)])), (st, .inl (E.2.1 3, 6, .inr (.inr (.inr (.inr g))))), (q 0, .inr (3, [.ref (a 0), .int (Rr 0), .int (Tt 0), .int (gB (Ww 0))])), (a 0, .inl (E.2.1 0, 64, .inl (F 0))), (q 1, .inr (3, [.ref (a 1), .int (Rr 1), .int (Tt 1), .int (gB (Ww 1))])), (a 1, .inl (E.2.1 0, 64, .inl (F 1))), (q 2, .inr (3, [.ref (a 2), .int (Rr 2), .int (Tt 2), .int (gB (Ww 2))])), (a 2, .inl (E.2.1 0, 64, .inl (F 2))), (q 3, .inr (3, [.ref (a 3), .int (Rr 3), .int (Tt 3), .int (gB (Ww 3))])), (a 3, .inl (E.2.1 0, 64, .inl (F 3))), (q 4, .inr (3, [.ref (a 4), .int (Rr 4), .int (Tt 4), .int (gB (Ww 4))])), (a 4, .inl (E.2.1 0, 64, .inl (F 4))), (q 5, .inr (3, [.ref (a 5), .int (Rr 5), .int (Tt 5), .int (gB (Ww 5))])), (a 5, .inl (E.2.1 0, 64, .inl (F 5)))] [(0, .ref hh), (1, .ref (q ((0 + o) % 6))), (2, .int (nI i))] [] 9 := by
    intro n_
    induction n_ with
    | zero => intro i g hm_; exact absurd hm_ (Nat.not_lt_zero _)
    | succ n_ ih_L9 =>
      intro i g hm_ e_g hi hi1
      subst e_g
      refine g_iload_n cx dX1_dropOldest_9 rfl ?_
      refine g_bipush cx dX1_dropOldest_10 kc_b6 ?_
      refine g_icmp_ge (tgt := 35) cx dX1_dropOldest_12 (by decide) (fun z1 => ?_) (fun z1 => ?_)
      ·
        have z1 := gn_le (a := 6) (b := i) (by omega) (by omega) z1
        obtain rfl : i = 6 := by omega
        refine g_aload_n cx dX1_dropOldest_35 rfl ?_
        refine g_get (C := RX1) (T := TX1) (N := 2) (ci := 1) cx hiX1 0 0 (by decide) rfl (by decide +kernel) rfl rfl dX1_dropOldest_36 ?_
        refine g_iconst cx dX1_dropOldest_39 kc_i5 ?_
        refine g_aload_n cx dX1_dropOldest_40 rfl ?_
        refine g_aastE (ws' := [(hh, .inr (1, [.ref st, .int (nI n)])), (st, .inl (E.2.1 3, 6, .inr (.inr (.inr (.inr (va_up (drp q o 6) 5 (some (q ((0 + o) % 6))))))))), (q 0, .inr (3, [.ref (a 0), .int (Rr 0), .int (Tt 0), .int (gB (Ww 0))])), (a 0, .inl (E.2.1 0, 64, .inl (F 0))), (q 1, .inr (3, [.ref (a 1), .int (Rr 1), .int (Tt 1), .int (gB (Ww 1))])), (a 1, .inl (E.2.1 0, 64, .inl (F 1))), (q 2, .inr (3, [.ref (a 2), .int (Rr 2), .int (Tt 2), .int (gB (Ww 2))])), (a 2, .inl (E.2.1 0, 64, .inl (F 2))), (q 3, .inr (3, [.ref (a 3), .int (Rr 3), .int (Tt 3), .int (gB (Ww 3))])), (a 3, .inl (E.2.1 0, 64, .inl (F 3))), (q 4, .inr (3, [.ref (a 4), .int (Rr 4), .int (Tt 4), .int (gB (Ww 4))])), (a 4, .inl (E.2.1 0, 64, .inl (F 4))), (q 5, .inr (3, [.ref (a 5), .int (Rr 5), .int (Tt 5), .int (gB (Ww 5))])), (a 5, .inl (E.2.1 0, 64, .inl (F 5)))]) cx 1 rfl rfl (by have hj : (0 + o) % 6 < 6 := Nat.mod_lt _ (by decide); revert hj; generalize (0 + o) % 6 = j; intro hj; match j, hj with | 0, _ => exact ⟨2, _, rfl⟩ | 1, _ => exact ⟨4, _, rfl⟩ | 2, _ => exact ⟨6, _, rfl⟩ | 3, _ => exact ⟨8, _, rfl⟩ | 4, _ => exact ⟨10, _, rfl⟩ | 5, _ => exact ⟨12, _, rfl⟩ | n9 + 6, h9 => exact absurd h9 (by omega)) (vp_in_nI (by omega) (by omega)) (by rw [nI_clamp (by omega)]; rfl) dX1_dropOldest_41 ?_
        refine g_wsP (ws' := [(hh, .inr (1, [.ref st, .int (nI n)])), (st, .inl (E.2.1 3, 6, .inr (.inr (.inr (.inr (fun k => some (q ((k + (o + 1)) % 6)))))))), (q 0, .inr (3, [.ref (a 0), .int (Rr 0), .int (Tt 0), .int (gB (Ww 0))])), (a 0, .inl (E.2.1 0, 64, .inl (F 0))), (q 1, .inr (3, [.ref (a 1), .int (Rr 1), .int (Tt 1), .int (gB (Ww 1))])), (a 1, .inl (E.2.1 0, 64, .inl (F 1))), (q 2, .inr (3, [.ref (a 2), .int (Rr 2), .int (Tt 2), .int (gB (Ww 2))])), (a 2, .inl (E.2.1 0, 64, .inl (F 2))), (q 3, .inr (3, [.ref (a 3), .int (Rr 3), .int (Tt 3), .int (gB (Ww 3))])), (a 3, .inl (E.2.1 0, 64, .inl (F 3))), (q 4, .inr (3, [.ref (a 4), .int (Rr 4), .int (Tt 4), .int (gB (Ww 4))])), (a 4, .inl (E.2.1 0, 64, .inl (F 4))), (q 5, .inr (3, [.ref (a 5), .int (Rr 5), .int (Tt 5), .int (gB (Ww 5))])), (a 5, .inl (E.2.1 0, 64, .inl (F 5)))]) rfl (fun H hP => gP_cell (ws := [(hh, .inr (1, [.ref st, .int (nI n)])), (st, .inl (E.2.1 3, 6, .inr (.inr (.inr (.inr (va_up (drp q o 6) 5 (some (q ((0 + o) % 6))))))))), (q 0, .inr (3, [.ref (a 0), .int (Rr 0), .int (Tt 0), .int (gB (Ww 0))])), (a 0, .inl (E.2.1 0, 64, .inl (F 0))), (q 1, .inr (3, [.ref (a 1), .int (Rr 1), .int (Tt 1), .int (gB (Ww 1))])), (a 1, .inl (E.2.1 0, 64, .inl (F 1))), (q 2, .inr (3, [.ref (a 2), .int (Rr 2), .int (Tt 2), .int (gB (Ww 2))])), (a 2, .inl (E.2.1 0, 64, .inl (F 2))), (q 3, .inr (3, [.ref (a 3), .int (Rr 3), .int (Tt 3), .int (gB (Ww 3))])), (a 3, .inl (E.2.1 0, 64, .inl (F 3))), (q 4, .inr (3, [.ref (a 4), .int (Rr 4), .int (Tt 4), .int (gB (Ww 4))])), (a 4, .inl (E.2.1 0, 64, .inl (F 4))), (q 5, .inr (3, [.ref (a 5), .int (Rr 5), .int (Tt 5), .int (gB (Ww 5))])), (a 5, .inl (E.2.1 0, 64, .inl (F 5)))]) (k := 1) (a := st) (cA := E.2.1 3) (cB := E.2.1 3) (x := (6, .inr (.inr (.inr (.inr (va_up (drp q o 6) 5 (some (q ((0 + o) % 6))))))))) (y := (6, .inr (.inr (.inr (.inr (fun k => some (q ((k + (o + 1)) % 6)))))))) hP (gcell_eqQ (drp_end q o))) ?_
        refine g_aload_n cx dX1_dropOldest_42 rfl ?_
        refine g_dup cx dX1_dropOldest_43 rfl ?_
        refine g_get (C := RX1) (T := TX1) (N := 2) (ci := 1) cx hiX1 0 1 (by decide) rfl (by decide +kernel) rfl rfl dX1_dropOldest_44 ?_
        refine g_iconst cx dX1_dropOldest_47 kc_i1 ?_
        refine g_isub cx dX1_dropOldest_48 ?_
        refine g_top (pk_sub (a := n) (b := 1) (by omega)) ?_
        refine g_put (ws' := [(hh, .inr (1, [.ref st, .int (nI (n - 1))])), (st, .inl (E.2.1 3, 6, .inr (.inr (.inr (.inr (fun k => some (q ((k + (o + 1)) % 6)))))))), (q 0, .inr (3, [.ref (a 0), .int (Rr 0), .int (Tt 0), .int (gB (Ww 0))])), (a 0, .inl (E.2.1 0, 64, .inl (F 0))), (q 1, .inr (3, [.ref (a 1), .int (Rr 1), .int (Tt 1), .int (gB (Ww 1))])), (a 1, .inl (E.2.1 0, 64, .inl (F 1))), (q 2, .inr (3, [.ref (a 2), .int (Rr 2), .int (Tt 2), .int (gB (Ww 2))])), (a 2, .inl (E.2.1 0, 64, .inl (F 2))), (q 3, .inr (3, [.ref (a 3), .int (Rr 3), .int (Tt 3), .int (gB (Ww 3))])), (a 3, .inl (E.2.1 0, 64, .inl (F 3))), (q 4, .inr (3, [.ref (a 4), .int (Rr 4), .int (Tt 4), .int (gB (Ww 4))])), (a 4, .inl (E.2.1 0, 64, .inl (F 4))), (q 5, .inr (3, [.ref (a 5), .int (Rr 5), .int (Tt 5), .int (gB (Ww 5))])), (a 5, .inl (E.2.1 0, 64, .inl (F 5)))]) (C := RX1) (T := TX1) (N := 2) (ci := 1) cx hiX1 tyX1 tyX1_ok nmX1 0 1 (by decide) rfl (by decide +kernel) rfl rfl rfl rfl rfl (Nat.le_of_ble_eq_true rfl) rfl dX1_dropOldest_49 ?_
        exact g_vretE cx dX1_dropOldest_52 (rfl)
      ·
        have z1 := gn_nle (a := 6) (b := i) (by omega) (by omega) z1
        refine g_aload_n cx dX1_dropOldest_15 rfl ?_
        refine g_get (C := RX1) (T := TX1) (N := 2) (ci := 1) cx hiX1 0 0 (by decide) rfl (by decide +kernel) rfl rfl dX1_dropOldest_16 ?_
        refine g_iload_n cx dX1_dropOldest_19 rfl ?_
        refine g_iconst cx dX1_dropOldest_20 kc_i1 ?_
        refine g_isub cx dX1_dropOldest_21 ?_
        refine g_top (pk_sub (a := i) (b := 1) (by omega)) ?_
        refine g_aload_n cx dX1_dropOldest_22 rfl ?_
        refine g_get (C := RX1) (T := TX1) (N := 2) (ci := 1) cx hiX1 0 0 (by decide) rfl (by decide +kernel) rfl rfl dX1_dropOldest_23 ?_
        refine g_iload_n cx dX1_dropOldest_26 rfl ?_
        refine g_aald cx 1 rfl rfl (vp_in_nI (by omega) (by omega)) (by rw [nI_clamp (by omega)]; exact drp_at _ _ _) dX1_dropOldest_27 ?_
        refine g_aastE (ws' := [(hh, .inr (1, [.ref st, .int (nI n)])), (st, .inl (E.2.1 3, 6, .inr (.inr (.inr (.inr (va_up (drp q o i) (i - 1) (some (q ((i + o) % 6))))))))), (q 0, .inr (3, [.ref (a 0), .int (Rr 0), .int (Tt 0), .int (gB (Ww 0))])), (a 0, .inl (E.2.1 0, 64, .inl (F 0))), (q 1, .inr (3, [.ref (a 1), .int (Rr 1), .int (Tt 1), .int (gB (Ww 1))])), (a 1, .inl (E.2.1 0, 64, .inl (F 1))), (q 2, .inr (3, [.ref (a 2), .int (Rr 2), .int (Tt 2), .int (gB (Ww 2))])), (a 2, .inl (E.2.1 0, 64, .inl (F 2))), (q 3, .inr (3, [.ref (a 3), .int (Rr 3), .int (Tt 3), .int (gB (Ww 3))])), (a 3, .inl (E.2.1 0, 64, .inl (F 3))), (q 4, .inr (3, [.ref (a 4), .int (Rr 4), .int (Tt 4), .int (gB (Ww 4))])), (a 4, .inl (E.2.1 0, 64, .inl (F 4))), (q 5, .inr (3, [.ref (a 5), .int (Rr 5), .int (Tt 5), .int (gB (Ww 5))])), (a 5, .inl (E.2.1 0, 64, .inl (F 5)))]) cx 1 rfl rfl (by have hj : (i + o) % 6 < 6 := Nat.mod_lt _ (by decide); revert hj; generalize (i + o) % 6 = j; intro hj; match j, hj with | 0, _ => exact ⟨2, _, rfl⟩ | 1, _ => exact ⟨4, _, rfl⟩ | 2, _ => exact ⟨6, _, rfl⟩ | 3, _ => exact ⟨8, _, rfl⟩ | 4, _ => exact ⟨10, _, rfl⟩ | 5, _ => exact ⟨12, _, rfl⟩ | n9 + 6, h9 => exact absurd h9 (by omega)) (vp_in_nI (by omega) (by omega)) (by rw [nI_clamp (by omega)]; rfl) dX1_dropOldest_28 ?_
        refine g_iinc (lv' := [(2, .int (nI (i + 1))), (0, .ref hh), (1, .ref (q ((0 + o) % 6)))]) (k := 2) cx dX1_dropOldest_29 rfl (gn_inc1 i) (by decide) rfl ?_
        refine g_goto (tgt := 9) cx dX1_dropOldest_32 (by decide) ?_
        refine g_lv [1, 2, 0] rfl ?_
        exact ih_L9 (i + 1) (va_up (drp q o i) (i - 1) (some (q ((i + o) % 6)))) (by omega) (drp_step _ _ _ hi1) (by omega) (by omega)
  refine g_lv [2, 1, 0] rfl ?_
  exact L9 (6 - 1 + 1) 1 (fun k => some (q ((k + o) % 6))) (by omega) (drp_1 _ _) (by omega) (by omega)
set_option maxRecDepth 100000 in
set_option maxHeartbeats 4000000 in
theorem c_X1_keep (l : Launch) (E : gEnv) (hh : Nat) (st : Nat) (q : Nat → Nat) (a : Nat → Nat) (F : Nat → Nat → Int32) (Rr : Nat → Int32) (Tt : Nat → Int32) (Ww : Nat → Bool) (o : Nat) (n : Nat) (hp : Nat) (ap : Nat) (f : Nat → Int32) (r : Int32) (t : Int32) (w : Bool) (hn6 : n ≤ 6) : gM l yX1_keep wsX1_keep ({ frames := 2, cells := 0, slots := 0, locals := 81 } : Room) E [.ref hh, .ref hp] [(hh, .inr (1, [.ref st, .int (nI n)])), (st, .inl (E.2.1 3, 6, .inr (.inr (.inr (.inr (fun k => some (q ((k + o) % 6)))))))), (q 0, .inr (3, [.ref (a 0), .int (Rr 0), .int (Tt 0), .int (gB (Ww 0))])), (a 0, .inl (E.2.1 0, 64, .inl (F 0))), (q 1, .inr (3, [.ref (a 1), .int (Rr 1), .int (Tt 1), .int (gB (Ww 1))])), (a 1, .inl (E.2.1 0, 64, .inl (F 1))), (q 2, .inr (3, [.ref (a 2), .int (Rr 2), .int (Tt 2), .int (gB (Ww 2))])), (a 2, .inl (E.2.1 0, 64, .inl (F 2))), (q 3, .inr (3, [.ref (a 3), .int (Rr 3), .int (Tt 3), .int (gB (Ww 3))])), (a 3, .inl (E.2.1 0, 64, .inl (F 3))), (q 4, .inr (3, [.ref (a 4), .int (Rr 4), .int (Tt 4), .int (gB (Ww 4))])), (a 4, .inl (E.2.1 0, 64, .inl (F 4))), (q 5, .inr (3, [.ref (a 5), .int (Rr 5), .int (Tt 5), .int (gB (Ww 5))])), (a 5, .inl (E.2.1 0, 64, .inl (F 5))), (hp, .inr (3, [.ref ap, .int r, .int t, .int (gB w)])), (ap, .inl (E.2.1 0, 64, .inl f))] [(hh, .inr (1, [.ref st, .int (nI (kN n))])), (st, .inl (E.2.1 3, 6, .inr (.inr (.inr (.inr (fun k => some (q ((k + kO n o) % 6)))))))), (q 0, .inr (3, [.ref (a 0), .int (pset Rr ((kN n - 1 + kO n o) % 6) r 0), .int (pset Tt ((kN n - 1 + kO n o) % 6) t 0), .int (gB (pset Ww ((kN n - 1 + kO n o) % 6) w 0))])), (a 0, .inl (E.2.1 0, 64, .inl (pset F ((kN n - 1 + kO n o) % 6) f 0))), (q 1, .inr (3, [.ref (a 1), .int (pset Rr ((kN n - 1 + kO n o) % 6) r 1), .int (pset Tt ((kN n - 1 + kO n o) % 6) t 1), .int (gB (pset Ww ((kN n - 1 + kO n o) % 6) w 1))])), (a 1, .inl (E.2.1 0, 64, .inl (pset F ((kN n - 1 + kO n o) % 6) f 1))), (q 2, .inr (3, [.ref (a 2), .int (pset Rr ((kN n - 1 + kO n o) % 6) r 2), .int (pset Tt ((kN n - 1 + kO n o) % 6) t 2), .int (gB (pset Ww ((kN n - 1 + kO n o) % 6) w 2))])), (a 2, .inl (E.2.1 0, 64, .inl (pset F ((kN n - 1 + kO n o) % 6) f 2))), (q 3, .inr (3, [.ref (a 3), .int (pset Rr ((kN n - 1 + kO n o) % 6) r 3), .int (pset Tt ((kN n - 1 + kO n o) % 6) t 3), .int (gB (pset Ww ((kN n - 1 + kO n o) % 6) w 3))])), (a 3, .inl (E.2.1 0, 64, .inl (pset F ((kN n - 1 + kO n o) % 6) f 3))), (q 4, .inr (3, [.ref (a 4), .int (pset Rr ((kN n - 1 + kO n o) % 6) r 4), .int (pset Tt ((kN n - 1 + kO n o) % 6) t 4), .int (gB (pset Ww ((kN n - 1 + kO n o) % 6) w 4))])), (a 4, .inl (E.2.1 0, 64, .inl (pset F ((kN n - 1 + kO n o) % 6) f 4))), (q 5, .inr (3, [.ref (a 5), .int (pset Rr ((kN n - 1 + kO n o) % 6) r 5), .int (pset Tt ((kN n - 1 + kO n o) % 6) t 5), .int (gB (pset Ww ((kN n - 1 + kO n o) % 6) w 5))])), (a 5, .inl (E.2.1 0, 64, .inl (pset F ((kN n - 1 + kO n o) % 6) f 5))), (hp, .inr (3, [.ref ap, .int r, .int t, .int (gB w)])), (ap, .inl (E.2.1 0, 64, .inl f))] none := by
  refine gM.ofG (cc := cX1_keep) (nL := 2) (ret := none) (own := RX1) [(0, .ref hh), (1, .ref hp)] (by decide) rfl rfl (Nat.le_of_ble_eq_true rfl) rfl rfl ?_
  intro pX eX sX mX bX tX cX A cx
  have hiX1 : ∀ w ∈ u_ws RX1 TX1 2, w ∈ wsX1_keep := by decide +kernel
  refine g_aload_n cx dX1_keep_0 rfl ?_
  refine g_get (C := RX1) (T := TX1) (N := 2) (ci := 1) cx hiX1 0 1 (by decide) rfl (by decide +kernel) rfl rfl dX1_keep_1 ?_
  refine g_bipush cx dX1_keep_4 kc_b6 ?_
  refine g_icmp_ne (tgt := 13) cx dX1_keep_6 (by decide) (fun z1 => ?_) (fun z1 => ?_)
  ·
    have z1 := gn_ne (a := n) (b := 6) z1
    refine g_aload_n cx dX1_keep_13 rfl ?_
    refine g_get (C := RX1) (T := TX1) (N := 2) (ci := 1) cx hiX1 0 0 (by decide) rfl (by decide +kernel) rfl rfl dX1_keep_14 ?_
    refine g_aload_n cx dX1_keep_17 rfl ?_
    refine g_get (C := RX1) (T := TX1) (N := 2) (ci := 1) cx hiX1 0 1 (by decide) rfl (by decide +kernel) rfl rfl dX1_keep_18 ?_
    refine g_aald cx 1 rfl rfl (vp_in_nI (by omega) (by omega)) (by rw [nI_clamp (by omega)]) dX1_keep_21 ?_
    refine g_aload_n cx dX1_keep_22 rfl ?_
    refine g_callV (fs := [.ref (a ((n + o) % 6)), .int (Rr ((n + o) % 6)), .int (Tt ((n + o) % 6)), .int (gB (Ww ((n + o) % 6)))]) (ws' := [(hh, .inr (1, [.ref st, .int (nI n)])), (st, .inl (E.2.1 3, 6, .inr (.inr (.inr (.inr (fun k => some (q ((k + o) % 6)))))))), (q 0, .inr (3, [.ref (a 0), .int (pset Rr ((n + o) % 6) r 0), .int (pset Tt ((n + o) % 6) t 0), .int (gB (pset Ww ((n + o) % 6) w 0))])), (a 0, .inl (E.2.1 0, 64, .inl (pset F ((n + o) % 6) f 0))), (q 1, .inr (3, [.ref (a 1), .int (pset Rr ((n + o) % 6) r 1), .int (pset Tt ((n + o) % 6) t 1), .int (gB (pset Ww ((n + o) % 6) w 1))])), (a 1, .inl (E.2.1 0, 64, .inl (pset F ((n + o) % 6) f 1))), (q 2, .inr (3, [.ref (a 2), .int (pset Rr ((n + o) % 6) r 2), .int (pset Tt ((n + o) % 6) t 2), .int (gB (pset Ww ((n + o) % 6) w 2))])), (a 2, .inl (E.2.1 0, 64, .inl (pset F ((n + o) % 6) f 2))), (q 3, .inr (3, [.ref (a 3), .int (pset Rr ((n + o) % 6) r 3), .int (pset Tt ((n + o) % 6) t 3), .int (gB (pset Ww ((n + o) % 6) w 3))])), (a 3, .inl (E.2.1 0, 64, .inl (pset F ((n + o) % 6) f 3))), (q 4, .inr (3, [.ref (a 4), .int (pset Rr ((n + o) % 6) r 4), .int (pset Tt ((n + o) % 6) t 4), .int (gB (pset Ww ((n + o) % 6) w 4))])), (a 4, .inl (E.2.1 0, 64, .inl (pset F ((n + o) % 6) f 4))), (q 5, .inr (3, [.ref (a 5), .int (pset Rr ((n + o) % 6) r 5), .int (pset Tt ((n + o) % 6) t 5), .int (gB (pset Ww ((n + o) % 6) w 5))])), (a 5, .inl (E.2.1 0, 64, .inl (pset F ((n + o) % 6) f 5))), (hp, .inr (3, [.ref ap, .int r, .int t, .int (gB w)])), (ap, .inl (E.2.1 0, 64, .inl f))]) (As := [.ref hp]) (rest := []) (n := 1) (T := TX3) (N := 4) (ci := 3) cx (c_X3_copyFrom l E (q ((n + o) % 6)) (a ((n + o) % 6)) (F ((n + o) % 6)) (Rr ((n + o) % 6)) (Tt ((n + o) % 6)) (Ww ((n + o) % 6)) hp ap f r t w ) gX1_keep_X3_copyFrom rfl (by decide +kernel) rfl rfl ⟨Nat.le_of_ble_eq_true rfl, Nat.le_of_ble_eq_true rfl⟩ ⟨Nat.zero_le _, Nat.zero_le _⟩ [2 + 2 * ((n + o) % 6), 3 + 2 * ((n + o) % 6), 14, 15] (2 + 2 * ((n + o) % 6)) (by have hj : (n + o) % 6 < 6 := Nat.mod_lt _ (by decide); revert hj; generalize (n + o) % 6 = j; intro hj; match j, hj with | 0, _ => rfl | 1, _ => rfl | 2, _ => rfl | 3, _ => rfl | 4, _ => rfl | 5, _ => rfl | n9 + 6, h9 => exact absurd h9 (by omega)) rfl (by have hj : (n + o) % 6 < 6 := Nat.mod_lt _ (by decide); revert hj; generalize (n + o) % 6 = j; intro hj; match j, hj with | 0, _ => rfl | 1, _ => rfl | 2, _ => rfl | 3, _ => rfl | 4, _ => rfl | 5, _ => rfl | n9 + 6, h9 => exact absurd h9 (by omega)) (by have hj : (n + o) % 6 < 6 := Nat.mod_lt _ (by decide); revert hj; generalize (n + o) % 6 = j; intro hj; match j, hj with | 0, _ => rfl | 1, _ => rfl | 2, _ => rfl | 3, _ => rfl | 4, _ => rfl | 5, _ => rfl | n9 + 6, h9 => exact absurd h9 (by omega)) (by have hj : (n + o) % 6 < 6 := Nat.mod_lt _ (by decide); revert hj; generalize (n + o) % 6 = j; intro hj; match j, hj with | 0, _ => rfl | 1, _ => rfl | 2, _ => rfl | 3, _ => rfl | 4, _ => rfl | 5, _ => rfl | n9 + 6, h9 => exact absurd h9 (by omega)) rfl rfl (Nat.le_of_ble_eq_true rfl) dX1_keep_23 ?_
    refine g_aload_n cx dX1_keep_26 rfl ?_
    refine g_dup cx dX1_keep_27 rfl ?_
    refine g_get (C := RX1) (T := TX1) (N := 2) (ci := 1) cx hiX1 0 1 (by decide) rfl (by decide +kernel) rfl rfl dX1_keep_28 ?_
    refine g_iconst cx dX1_keep_31 kc_i1 ?_
    refine g_iadd cx dX1_keep_32 ?_
    refine g_top (nI_add n 1) ?_
    refine g_put (ws' := [(hh, .inr (1, [.ref st, .int (nI (n + 1))])), (st, .inl (E.2.1 3, 6, .inr (.inr (.inr (.inr (fun k => some (q ((k + o) % 6)))))))), (q 0, .inr (3, [.ref (a 0), .int (pset Rr ((n + o) % 6) r 0), .int (pset Tt ((n + o) % 6) t 0), .int (gB (pset Ww ((n + o) % 6) w 0))])), (a 0, .inl (E.2.1 0, 64, .inl (pset F ((n + o) % 6) f 0))), (q 1, .inr (3, [.ref (a 1), .int (pset Rr ((n + o) % 6) r 1), .int (pset Tt ((n + o) % 6) t 1), .int (gB (pset Ww ((n + o) % 6) w 1))])), (a 1, .inl (E.2.1 0, 64, .inl (pset F ((n + o) % 6) f 1))), (q 2, .inr (3, [.ref (a 2), .int (pset Rr ((n + o) % 6) r 2), .int (pset Tt ((n + o) % 6) t 2), .int (gB (pset Ww ((n + o) % 6) w 2))])), (a 2, .inl (E.2.1 0, 64, .inl (pset F ((n + o) % 6) f 2))), (q 3, .inr (3, [.ref (a 3), .int (pset Rr ((n + o) % 6) r 3), .int (pset Tt ((n + o) % 6) t 3), .int (gB (pset Ww ((n + o) % 6) w 3))])), (a 3, .inl (E.2.1 0, 64, .inl (pset F ((n + o) % 6) f 3))), (q 4, .inr (3, [.ref (a 4), .int (pset Rr ((n + o) % 6) r 4), .int (pset Tt ((n + o) % 6) t 4), .int (gB (pset Ww ((n + o) % 6) w 4))])), (a 4, .inl (E.2.1 0, 64, .inl (pset F ((n + o) % 6) f 4))), (q 5, .inr (3, [.ref (a 5), .int (pset Rr ((n + o) % 6) r 5), .int (pset Tt ((n + o) % 6) t 5), .int (gB (pset Ww ((n + o) % 6) w 5))])), (a 5, .inl (E.2.1 0, 64, .inl (pset F ((n + o) % 6) f 5))), (hp, .inr (3, [.ref ap, .int r, .int t, .int (gB w)])), (ap, .inl (E.2.1 0, 64, .inl f))]) (C := RX1) (T := TX1) (N := 2) (ci := 1) cx hiX1 tyX1 tyX1_ok nmX1 0 1 (by decide) rfl (by decide +kernel) rfl rfl rfl rfl rfl (Nat.le_of_ble_eq_true rfl) rfl dX1_keep_33 ?_
    exact g_vretE cx dX1_keep_36 (by first | rfl | (rw [show kN n = n + 1 from if_neg (by assumption), show kO n o = o from if_neg (by assumption), Nat.add_sub_cancel]))
  ·
    have z1 := gn_eq (a := n) (b := 6) (by omega) (by omega) z1
    obtain rfl : n = 6 := by omega
    refine g_aload_n cx dX1_keep_9 rfl ?_
    refine g_callV (ws' := [(hh, .inr (1, [.ref st, .int (nI (6 - 1))])), (st, .inl (E.2.1 3, 6, .inr (.inr (.inr (.inr (fun k => some (q ((k + (o + 1)) % 6)))))))), (q 0, .inr (3, [.ref (a 0), .int (Rr 0), .int (Tt 0), .int (gB (Ww 0))])), (a 0, .inl (E.2.1 0, 64, .inl (F 0))), (q 1, .inr (3, [.ref (a 1), .int (Rr 1), .int (Tt 1), .int (gB (Ww 1))])), (a 1, .inl (E.2.1 0, 64, .inl (F 1))), (q 2, .inr (3, [.ref (a 2), .int (Rr 2), .int (Tt 2), .int (gB (Ww 2))])), (a 2, .inl (E.2.1 0, 64, .inl (F 2))), (q 3, .inr (3, [.ref (a 3), .int (Rr 3), .int (Tt 3), .int (gB (Ww 3))])), (a 3, .inl (E.2.1 0, 64, .inl (F 3))), (q 4, .inr (3, [.ref (a 4), .int (Rr 4), .int (Tt 4), .int (gB (Ww 4))])), (a 4, .inl (E.2.1 0, 64, .inl (F 4))), (q 5, .inr (3, [.ref (a 5), .int (Rr 5), .int (Tt 5), .int (gB (Ww 5))])), (a 5, .inl (E.2.1 0, 64, .inl (F 5))), (hp, .inr (3, [.ref ap, .int r, .int t, .int (gB w)])), (ap, .inl (E.2.1 0, 64, .inl f))]) (As := []) (rest := []) (n := 0) (T := TX1) (N := 2) (ci := 1) cx (c_X1_dropOldest l E hh st q a F Rr Tt Ww o 6 (by omega) (by omega)) gX1_keep_X1_dropOldest rfl (by decide +kernel) rfl rfl ⟨Nat.le_of_ble_eq_true rfl, Nat.le_of_ble_eq_true rfl⟩ ⟨Nat.zero_le _, Nat.zero_le _⟩ [0, 1, 2, 3, 4, 5, 6, 7, 8, 9, 10, 11, 12, 13] 0 rfl rfl (by decide) rfl rfl rfl rfl (Nat.le_of_ble_eq_true rfl) dX1_keep_10 ?_
    refine g_aload_n cx dX1_keep_13 rfl ?_
    refine g_get (C := RX1) (T := TX1) (N := 2) (ci := 1) cx hiX1 0 0 (by decide) rfl (by decide +kernel) rfl rfl dX1_keep_14 ?_
    refine g_aload_n cx dX1_keep_17 rfl ?_
    refine g_get (C := RX1) (T := TX1) (N := 2) (ci := 1) cx hiX1 0 1 (by decide) rfl (by decide +kernel) rfl rfl dX1_keep_18 ?_
    refine g_aald cx 1 rfl rfl (vp_in_nI (by omega) (by omega)) (by rw [nI_clamp (by omega)]) dX1_keep_21 ?_
    refine g_aload_n cx dX1_keep_22 rfl ?_
    refine g_callV (fs := [.ref (a ((5 + (o + 1)) % 6)), .int (Rr ((5 + (o + 1)) % 6)), .int (Tt ((5 + (o + 1)) % 6)), .int (gB (Ww ((5 + (o + 1)) % 6)))]) (ws' := [(hh, .inr (1, [.ref st, .int (nI (6 - 1))])), (st, .inl (E.2.1 3, 6, .inr (.inr (.inr (.inr (fun k => some (q ((k + (o + 1)) % 6)))))))), (q 0, .inr (3, [.ref (a 0), .int (pset Rr ((5 + (o + 1)) % 6) r 0), .int (pset Tt ((5 + (o + 1)) % 6) t 0), .int (gB (pset Ww ((5 + (o + 1)) % 6) w 0))])), (a 0, .inl (E.2.1 0, 64, .inl (pset F ((5 + (o + 1)) % 6) f 0))), (q 1, .inr (3, [.ref (a 1), .int (pset Rr ((5 + (o + 1)) % 6) r 1), .int (pset Tt ((5 + (o + 1)) % 6) t 1), .int (gB (pset Ww ((5 + (o + 1)) % 6) w 1))])), (a 1, .inl (E.2.1 0, 64, .inl (pset F ((5 + (o + 1)) % 6) f 1))), (q 2, .inr (3, [.ref (a 2), .int (pset Rr ((5 + (o + 1)) % 6) r 2), .int (pset Tt ((5 + (o + 1)) % 6) t 2), .int (gB (pset Ww ((5 + (o + 1)) % 6) w 2))])), (a 2, .inl (E.2.1 0, 64, .inl (pset F ((5 + (o + 1)) % 6) f 2))), (q 3, .inr (3, [.ref (a 3), .int (pset Rr ((5 + (o + 1)) % 6) r 3), .int (pset Tt ((5 + (o + 1)) % 6) t 3), .int (gB (pset Ww ((5 + (o + 1)) % 6) w 3))])), (a 3, .inl (E.2.1 0, 64, .inl (pset F ((5 + (o + 1)) % 6) f 3))), (q 4, .inr (3, [.ref (a 4), .int (pset Rr ((5 + (o + 1)) % 6) r 4), .int (pset Tt ((5 + (o + 1)) % 6) t 4), .int (gB (pset Ww ((5 + (o + 1)) % 6) w 4))])), (a 4, .inl (E.2.1 0, 64, .inl (pset F ((5 + (o + 1)) % 6) f 4))), (q 5, .inr (3, [.ref (a 5), .int (pset Rr ((5 + (o + 1)) % 6) r 5), .int (pset Tt ((5 + (o + 1)) % 6) t 5), .int (gB (pset Ww ((5 + (o + 1)) % 6) w 5))])), (a 5, .inl (E.2.1 0, 64, .inl (pset F ((5 + (o + 1)) % 6) f 5))), (hp, .inr (3, [.ref ap, .int r, .int t, .int (gB w)])), (ap, .inl (E.2.1 0, 64, .inl f))]) (As := [.ref hp]) (rest := []) (n := 1) (T := TX3) (N := 4) (ci := 3) cx (c_X3_copyFrom l E (q ((5 + (o + 1)) % 6)) (a ((5 + (o + 1)) % 6)) (F ((5 + (o + 1)) % 6)) (Rr ((5 + (o + 1)) % 6)) (Tt ((5 + (o + 1)) % 6)) (Ww ((5 + (o + 1)) % 6)) hp ap f r t w ) gX1_keep_X3_copyFrom rfl (by decide +kernel) rfl rfl ⟨Nat.le_of_ble_eq_true rfl, Nat.le_of_ble_eq_true rfl⟩ ⟨Nat.zero_le _, Nat.zero_le _⟩ [2 + 2 * ((5 + (o + 1)) % 6), 3 + 2 * ((5 + (o + 1)) % 6), 14, 15] (2 + 2 * ((5 + (o + 1)) % 6)) (by have hj : (5 + (o + 1)) % 6 < 6 := Nat.mod_lt _ (by decide); revert hj; generalize (5 + (o + 1)) % 6 = j; intro hj; match j, hj with | 0, _ => rfl | 1, _ => rfl | 2, _ => rfl | 3, _ => rfl | 4, _ => rfl | 5, _ => rfl | n9 + 6, h9 => exact absurd h9 (by omega)) rfl (by have hj : (5 + (o + 1)) % 6 < 6 := Nat.mod_lt _ (by decide); revert hj; generalize (5 + (o + 1)) % 6 = j; intro hj; match j, hj with | 0, _ => rfl | 1, _ => rfl | 2, _ => rfl | 3, _ => rfl | 4, _ => rfl | 5, _ => rfl | n9 + 6, h9 => exact absurd h9 (by omega)) (by have hj : (5 + (o + 1)) % 6 < 6 := Nat.mod_lt _ (by decide); revert hj; generalize (5 + (o + 1)) % 6 = j; intro hj; match j, hj with | 0, _ => rfl | 1, _ => rfl | 2, _ => rfl | 3, _ => rfl | 4, _ => rfl | 5, _ => rfl | n9 + 6, h9 => exact absurd h9 (by omega)) (by have hj : (5 + (o + 1)) % 6 < 6 := Nat.mod_lt _ (by decide); revert hj; generalize (5 + (o + 1)) % 6 = j; intro hj; match j, hj with | 0, _ => rfl | 1, _ => rfl | 2, _ => rfl | 3, _ => rfl | 4, _ => rfl | 5, _ => rfl | n9 + 6, h9 => exact absurd h9 (by omega)) rfl rfl (Nat.le_of_ble_eq_true rfl) dX1_keep_23 ?_
    refine g_aload_n cx dX1_keep_26 rfl ?_
    refine g_dup cx dX1_keep_27 rfl ?_
    refine g_get (C := RX1) (T := TX1) (N := 2) (ci := 1) cx hiX1 0 1 (by decide) rfl (by decide +kernel) rfl rfl dX1_keep_28 ?_
    refine g_iconst cx dX1_keep_31 kc_i1 ?_
    refine g_iadd cx dX1_keep_32 ?_
    refine g_top (nI_add (6 - 1) 1) ?_
    refine g_put (ws' := [(hh, .inr (1, [.ref st, .int (nI ((6 - 1) + 1))])), (st, .inl (E.2.1 3, 6, .inr (.inr (.inr (.inr (fun k => some (q ((k + (o + 1)) % 6)))))))), (q 0, .inr (3, [.ref (a 0), .int (pset Rr ((5 + (o + 1)) % 6) r 0), .int (pset Tt ((5 + (o + 1)) % 6) t 0), .int (gB (pset Ww ((5 + (o + 1)) % 6) w 0))])), (a 0, .inl (E.2.1 0, 64, .inl (pset F ((5 + (o + 1)) % 6) f 0))), (q 1, .inr (3, [.ref (a 1), .int (pset Rr ((5 + (o + 1)) % 6) r 1), .int (pset Tt ((5 + (o + 1)) % 6) t 1), .int (gB (pset Ww ((5 + (o + 1)) % 6) w 1))])), (a 1, .inl (E.2.1 0, 64, .inl (pset F ((5 + (o + 1)) % 6) f 1))), (q 2, .inr (3, [.ref (a 2), .int (pset Rr ((5 + (o + 1)) % 6) r 2), .int (pset Tt ((5 + (o + 1)) % 6) t 2), .int (gB (pset Ww ((5 + (o + 1)) % 6) w 2))])), (a 2, .inl (E.2.1 0, 64, .inl (pset F ((5 + (o + 1)) % 6) f 2))), (q 3, .inr (3, [.ref (a 3), .int (pset Rr ((5 + (o + 1)) % 6) r 3), .int (pset Tt ((5 + (o + 1)) % 6) t 3), .int (gB (pset Ww ((5 + (o + 1)) % 6) w 3))])), (a 3, .inl (E.2.1 0, 64, .inl (pset F ((5 + (o + 1)) % 6) f 3))), (q 4, .inr (3, [.ref (a 4), .int (pset Rr ((5 + (o + 1)) % 6) r 4), .int (pset Tt ((5 + (o + 1)) % 6) t 4), .int (gB (pset Ww ((5 + (o + 1)) % 6) w 4))])), (a 4, .inl (E.2.1 0, 64, .inl (pset F ((5 + (o + 1)) % 6) f 4))), (q 5, .inr (3, [.ref (a 5), .int (pset Rr ((5 + (o + 1)) % 6) r 5), .int (pset Tt ((5 + (o + 1)) % 6) t 5), .int (gB (pset Ww ((5 + (o + 1)) % 6) w 5))])), (a 5, .inl (E.2.1 0, 64, .inl (pset F ((5 + (o + 1)) % 6) f 5))), (hp, .inr (3, [.ref ap, .int r, .int t, .int (gB w)])), (ap, .inl (E.2.1 0, 64, .inl f))]) (C := RX1) (T := TX1) (N := 2) (ci := 1) cx hiX1 tyX1 tyX1_ok nmX1 0 1 (by decide) rfl (by decide +kernel) rfl rfl rfl rfl rfl (Nat.le_of_ble_eq_true rfl) rfl dX1_keep_33 ?_
    exact g_vretE cx dX1_keep_36 (by first | rfl | (rw [show kN n = n + 1 from if_neg (by assumption), show kO n o = o from if_neg (by assumption), Nat.add_sub_cancel]))
set_option maxRecDepth 100000 in
set_option maxHeartbeats 4000000 in
theorem c_X1_takeBack (l : Launch) (E : gEnv) (hh : Nat) (st : Nat) (q : Nat → Nat) (a : Nat → Nat) (F : Nat → Nat → Int32) (Rr : Nat → Int32) (Tt : Nat → Int32) (Ww : Nat → Bool) (o : Nat) (n : Nat) (hp : Nat) (ap : Nat) (f : Nat → Int32) (r : Int32) (t : Int32) (w : Bool) (hn6 : n ≤ 6) (hn0 : 0 < n) : gM l yX1_takeBack wsX1_takeBack ({ frames := 2, cells := 0, slots := 0, locals := 81 } : Room) E [.ref hh, .ref hp] [(hh, .inr (1, [.ref st, .int (nI n)])), (st, .inl (E.2.1 3, 6, .inr (.inr (.inr (.inr (fun k => some (q ((k + o) % 6)))))))), (q 0, .inr (3, [.ref (a 0), .int (Rr 0), .int (Tt 0), .int (gB (Ww 0))])), (a 0, .inl (E.2.1 0, 64, .inl (F 0))), (q 1, .inr (3, [.ref (a 1), .int (Rr 1), .int (Tt 1), .int (gB (Ww 1))])), (a 1, .inl (E.2.1 0, 64, .inl (F 1))), (q 2, .inr (3, [.ref (a 2), .int (Rr 2), .int (Tt 2), .int (gB (Ww 2))])), (a 2, .inl (E.2.1 0, 64, .inl (F 2))), (q 3, .inr (3, [.ref (a 3), .int (Rr 3), .int (Tt 3), .int (gB (Ww 3))])), (a 3, .inl (E.2.1 0, 64, .inl (F 3))), (q 4, .inr (3, [.ref (a 4), .int (Rr 4), .int (Tt 4), .int (gB (Ww 4))])), (a 4, .inl (E.2.1 0, 64, .inl (F 4))), (q 5, .inr (3, [.ref (a 5), .int (Rr 5), .int (Tt 5), .int (gB (Ww 5))])), (a 5, .inl (E.2.1 0, 64, .inl (F 5))), (hp, .inr (3, [.ref ap, .int r, .int t, .int (gB w)])), (ap, .inl (E.2.1 0, 64, .inl f))] [(hh, .inr (1, [.ref st, .int (nI (n - 1))])), (st, .inl (E.2.1 3, 6, .inr (.inr (.inr (.inr (fun k => some (q ((k + o) % 6)))))))), (q 0, .inr (3, [.ref (a 0), .int (Rr 0), .int (Tt 0), .int (gB (Ww 0))])), (a 0, .inl (E.2.1 0, 64, .inl (F 0))), (q 1, .inr (3, [.ref (a 1), .int (Rr 1), .int (Tt 1), .int (gB (Ww 1))])), (a 1, .inl (E.2.1 0, 64, .inl (F 1))), (q 2, .inr (3, [.ref (a 2), .int (Rr 2), .int (Tt 2), .int (gB (Ww 2))])), (a 2, .inl (E.2.1 0, 64, .inl (F 2))), (q 3, .inr (3, [.ref (a 3), .int (Rr 3), .int (Tt 3), .int (gB (Ww 3))])), (a 3, .inl (E.2.1 0, 64, .inl (F 3))), (q 4, .inr (3, [.ref (a 4), .int (Rr 4), .int (Tt 4), .int (gB (Ww 4))])), (a 4, .inl (E.2.1 0, 64, .inl (F 4))), (q 5, .inr (3, [.ref (a 5), .int (Rr 5), .int (Tt 5), .int (gB (Ww 5))])), (a 5, .inl (E.2.1 0, 64, .inl (F 5))), (hp, .inr (3, [.ref ap, .int (Rr ((n - 1 + o) % 6)), .int (Tt ((n - 1 + o) % 6)), .int (gB (Ww ((n - 1 + o) % 6)))])), (ap, .inl (E.2.1 0, 64, .inl (F ((n - 1 + o) % 6))))] none := by
  refine gM.ofG (cc := cX1_takeBack) (nL := 2) (ret := none) (own := RX1) [(0, .ref hh), (1, .ref hp)] (by decide) rfl rfl (Nat.le_of_ble_eq_true rfl) rfl rfl ?_
  intro pX eX sX mX bX tX cX A cx
  have hiX1 : ∀ w ∈ u_ws RX1 TX1 2, w ∈ wsX1_takeBack := by decide +kernel
  refine g_aload_n cx dX1_takeBack_0 rfl ?_
  refine g_get (C := RX1) (T := TX1) (N := 2) (ci := 1) cx hiX1 0 1 (by decide) rfl (by decide +kernel) rfl rfl dX1_takeBack_1 ?_
  refine g_if_le (tgt := 30) cx dX1_takeBack_4 (by decide) (fun z1 => absurd (gn_le (a := n) (b := 0) (by omega) (by omega) z1) (by omega)) (fun z1 => ?_)
  have z1 := gn_nle (a := n) (b := 0) (by omega) (by omega) z1
  refine g_aload_n cx dX1_takeBack_7 rfl ?_
  refine g_dup cx dX1_takeBack_8 rfl ?_
  refine g_get (C := RX1) (T := TX1) (N := 2) (ci := 1) cx hiX1 0 1 (by decide) rfl (by decide +kernel) rfl rfl dX1_takeBack_9 ?_
  refine g_iconst cx dX1_takeBack_12 kc_i1 ?_
  refine g_isub cx dX1_takeBack_13 ?_
  refine g_top (pk_sub (a := n) (b := 1) (by omega)) ?_
  refine g_put (ws' := [(hh, .inr (1, [.ref st, .int (nI (n - 1))])), (st, .inl (E.2.1 3, 6, .inr (.inr (.inr (.inr (fun k => some (q ((k + o) % 6)))))))), (q 0, .inr (3, [.ref (a 0), .int (Rr 0), .int (Tt 0), .int (gB (Ww 0))])), (a 0, .inl (E.2.1 0, 64, .inl (F 0))), (q 1, .inr (3, [.ref (a 1), .int (Rr 1), .int (Tt 1), .int (gB (Ww 1))])), (a 1, .inl (E.2.1 0, 64, .inl (F 1))), (q 2, .inr (3, [.ref (a 2), .int (Rr 2), .int (Tt 2), .int (gB (Ww 2))])), (a 2, .inl (E.2.1 0, 64, .inl (F 2))), (q 3, .inr (3, [.ref (a 3), .int (Rr 3), .int (Tt 3), .int (gB (Ww 3))])), (a 3, .inl (E.2.1 0, 64, .inl (F 3))), (q 4, .inr (3, [.ref (a 4), .int (Rr 4), .int (Tt 4), .int (gB (Ww 4))])), (a 4, .inl (E.2.1 0, 64, .inl (F 4))), (q 5, .inr (3, [.ref (a 5), .int (Rr 5), .int (Tt 5), .int (gB (Ww 5))])), (a 5, .inl (E.2.1 0, 64, .inl (F 5))), (hp, .inr (3, [.ref ap, .int r, .int t, .int (gB w)])), (ap, .inl (E.2.1 0, 64, .inl f))]) (C := RX1) (T := TX1) (N := 2) (ci := 1) cx hiX1 tyX1 tyX1_ok nmX1 0 1 (by decide) rfl (by decide +kernel) rfl rfl rfl rfl rfl (Nat.le_of_ble_eq_true rfl) rfl dX1_takeBack_14 ?_
  refine g_aload_n cx dX1_takeBack_17 rfl ?_
  refine g_aload_n cx dX1_takeBack_18 rfl ?_
  refine g_get (C := RX1) (T := TX1) (N := 2) (ci := 1) cx hiX1 0 0 (by decide) rfl (by decide +kernel) rfl rfl dX1_takeBack_19 ?_
  refine g_aload_n cx dX1_takeBack_22 rfl ?_
  refine g_get (C := RX1) (T := TX1) (N := 2) (ci := 1) cx hiX1 0 1 (by decide) rfl (by decide +kernel) rfl rfl dX1_takeBack_23 ?_
  refine g_aald cx 1 rfl rfl (vp_in_nI (by omega) (by omega)) (by rw [nI_clamp (by omega)]) dX1_takeBack_26 ?_
  refine g_callV (ws' := [(hh, .inr (1, [.ref st, .int (nI (n - 1))])), (st, .inl (E.2.1 3, 6, .inr (.inr (.inr (.inr (fun k => some (q ((k + o) % 6)))))))), (q 0, .inr (3, [.ref (a 0), .int (Rr 0), .int (Tt 0), .int (gB (Ww 0))])), (a 0, .inl (E.2.1 0, 64, .inl (F 0))), (q 1, .inr (3, [.ref (a 1), .int (Rr 1), .int (Tt 1), .int (gB (Ww 1))])), (a 1, .inl (E.2.1 0, 64, .inl (F 1))), (q 2, .inr (3, [.ref (a 2), .int (Rr 2), .int (Tt 2), .int (gB (Ww 2))])), (a 2, .inl (E.2.1 0, 64, .inl (F 2))), (q 3, .inr (3, [.ref (a 3), .int (Rr 3), .int (Tt 3), .int (gB (Ww 3))])), (a 3, .inl (E.2.1 0, 64, .inl (F 3))), (q 4, .inr (3, [.ref (a 4), .int (Rr 4), .int (Tt 4), .int (gB (Ww 4))])), (a 4, .inl (E.2.1 0, 64, .inl (F 4))), (q 5, .inr (3, [.ref (a 5), .int (Rr 5), .int (Tt 5), .int (gB (Ww 5))])), (a 5, .inl (E.2.1 0, 64, .inl (F 5))), (hp, .inr (3, [.ref ap, .int (Rr ((n - 1 + o) % 6)), .int (Tt ((n - 1 + o) % 6)), .int (gB (Ww ((n - 1 + o) % 6)))])), (ap, .inl (E.2.1 0, 64, .inl (F ((n - 1 + o) % 6))))]) (As := [.ref (q ((n - 1 + o) % 6))]) (rest := []) (n := 1) (T := TX3) (N := 4) (ci := 3) cx (c_X3_copyFrom l E hp ap f r t w (q ((n - 1 + o) % 6)) (a ((n - 1 + o) % 6)) (F ((n - 1 + o) % 6)) (Rr ((n - 1 + o) % 6)) (Tt ((n - 1 + o) % 6)) (Ww ((n - 1 + o) % 6)) ) gX1_takeBack_X3_copyFrom rfl (by decide +kernel) rfl rfl ⟨Nat.le_of_ble_eq_true rfl, Nat.le_of_ble_eq_true rfl⟩ ⟨Nat.zero_le _, Nat.zero_le _⟩ [14, 15, 2 + 2 * ((n - 1 + o) % 6), 3 + 2 * ((n - 1 + o) % 6)] 14 rfl rfl (by have hj : (n - 1 + o) % 6 < 6 := Nat.mod_lt _ (by decide); revert hj; generalize (n - 1 + o) % 6 = j; intro hj; match j, hj with | 0, _ => rfl | 1, _ => rfl | 2, _ => rfl | 3, _ => rfl | 4, _ => rfl | 5, _ => rfl | n9 + 6, h9 => exact absurd h9 (by omega)) (by have hj : (n - 1 + o) % 6 < 6 := Nat.mod_lt _ (by decide); revert hj; generalize (n - 1 + o) % 6 = j; intro hj; match j, hj with | 0, _ => rfl | 1, _ => rfl | 2, _ => rfl | 3, _ => rfl | 4, _ => rfl | 5, _ => rfl | n9 + 6, h9 => exact absurd h9 (by omega)) (by have hj : (n - 1 + o) % 6 < 6 := Nat.mod_lt _ (by decide); revert hj; generalize (n - 1 + o) % 6 = j; intro hj; match j, hj with | 0, _ => rfl | 1, _ => rfl | 2, _ => rfl | 3, _ => rfl | 4, _ => rfl | 5, _ => rfl | n9 + 6, h9 => exact absurd h9 (by omega)) rfl rfl (Nat.le_of_ble_eq_true rfl) dX1_takeBack_27 ?_
  exact g_vretE cx dX1_takeBack_30 (rfl)
set_option maxRecDepth 100000 in
set_option maxHeartbeats 4000000 in
theorem c_X0_hasRoomFor (l : Launch) (E : gEnv) (h : Nat) (a : Nat) (T : Nat → Nat) (n : Nat) (k : Nat) (hn : n ≤ 80) (hT : ∀ j, T j < 128) (hk : k ≤ 8) : gM l yX0_hasRoomFor wsX0_hasRoomFor ({ frames := 0, cells := 0, slots := 0, locals := 0 } : Room) E [.ref h, .int (nI k)] [(h, .inr (0, [.ref a, .int (nI n)])), (a, .inl (E.2.1 1, 80, .inl (fun j => nI (T j))))] [(h, .inr (0, [.ref a, .int (nI n)])), (a, .inl (E.2.1 1, 80, .inl (fun j => nI (T j))))] (some (.int (gB (decide (n + k ≤ 80))))) := by
  refine gM.ofG (cc := cX0_hasRoomFor) (nL := 2) (ret := (some .boolean)) (own := RX0) [(0, .ref h), (1, .int (nI k))] (by decide) rfl rfl (Nat.le_of_ble_eq_true rfl) rfl rfl ?_
  intro pX eX sX mX bX tX cX A cx
  have hiX0 : ∀ w ∈ u_ws RX0 TX0 2, w ∈ wsX0_hasRoomFor := by decide +kernel
  refine g_aload_n cx dX0_hasRoomFor_0 rfl ?_
  refine g_get (C := RX0) (T := TX0) (N := 2) (ci := 0) cx hiX0 0 1 (by decide) rfl (by decide +kernel) rfl rfl dX0_hasRoomFor_1 ?_
  refine g_iload_n cx dX0_hasRoomFor_4 rfl ?_
  refine g_iadd cx dX0_hasRoomFor_5 ?_
  refine g_top (nI_add n k) ?_
  refine g_bipush cx dX0_hasRoomFor_6 kc_b80 ?_
  refine g_icmp_gt (tgt := 15) cx dX0_hasRoomFor_8 (by decide) (fun z1 => ?_) (fun z1 => ?_)
  ·
    have z1 := gn_lt (a := 80) (b := n + k) (by first | omega | exact hT _ | exact Nat.lt_trans (hT _) (by decide)) (by first | omega | exact hT _ | exact Nat.lt_trans (hT _) (by decide)) z1
    refine g_iconst cx dX0_hasRoomFor_15 kc_i0 ?_
    exact g_zretE cx (by decide +kernel) dX0_hasRoomFor_16 (rfl) (by first | exact gB_of (decide_eq_true (by omega)) | exact gB_off (decide_eq_false (by omega)))
  ·
    have z1 := gn_nlt (a := 80) (b := n + k) (by first | omega | exact hT _ | exact Nat.lt_trans (hT _) (by decide)) (by first | omega | exact hT _ | exact Nat.lt_trans (hT _) (by decide)) z1
    refine g_iconst cx dX0_hasRoomFor_11 kc_i1 ?_
    refine g_goto (tgt := 16) cx dX0_hasRoomFor_12 (by decide) ?_
    exact g_zretE cx (by decide +kernel) dX0_hasRoomFor_16 (rfl) (by first | exact gB_of (decide_eq_true (by omega)) | exact gB_off (decide_eq_false (by omega)))
set_option maxRecDepth 100000 in
set_option maxHeartbeats 4000000 in
theorem c_X0_awaitedAfterDigit (l : Launch) (E : gEnv) (ch : Nat) (nx : Nat)  : gM l yX0_awaitedAfterDigit wsX0_awaitedAfterDigit ({ frames := 1, cells := 0, slots := 0, locals := 20 } : Room) E [.int (nI ch), .int (nI nx)] [] [] (some (.int (dgI ch nx))) := by
  refine gM.ofG (cc := cX0_awaitedAfterDigit) (nL := 2) (ret := (some .int)) (own := RX0) [(0, .int (nI ch)), (1, .int (nI nx))] (by decide) rfl rfl (Nat.le_of_ble_eq_true rfl) rfl rfl ?_
  intro pX eX sX mX bX tX cX A cx
  refine g_iload_n cx dX0_awaitedAfterDigit_0 rfl ?_
  refine g_callS (ws' := []) (As := [.int (nI ch)]) (rest := []) (n := 1) cx (c_X0_isDigit l E (nI ch) ) gX0_awaitedAfterDigit_X0_isDigit rfl (by decide +kernel) rfl rfl ⟨Nat.le_of_ble_eq_true rfl, Nat.le_of_ble_eq_true rfl⟩ ⟨Nat.zero_le _, Nat.zero_le _⟩ [] (by decide) rfl rfl rfl rfl (Nat.le_of_ble_eq_true rfl) dX0_awaitedAfterDigit_1 ?_
  refine g_if_eq (tgt := 11) cx dX0_awaitedAfterDigit_4 (by decide) (fun z1 => ?_) (fun z1 => ?_)
  ·
    have z1 := gB_eq0 z1
    refine g_iconst cx dX0_awaitedAfterDigit_11 kc_im1 ?_
    exact g_iretE cx dX0_awaitedAfterDigit_12 (rfl) (by first | rfl | exact (if_pos (by assumption)).symm | exact (if_neg (by simp_all)).symm)
  ·
    have z1 := gB_ne0 z1
    refine g_iload_n cx dX0_awaitedAfterDigit_7 rfl ?_
    refine g_goto (tgt := 12) cx dX0_awaitedAfterDigit_8 (by decide) ?_
    exact g_iretE cx dX0_awaitedAfterDigit_12 (rfl) (by first | rfl | exact (if_pos (by assumption)).symm | exact (if_neg (by simp_all)).symm)
set_option maxRecDepth 100000 in
set_option maxHeartbeats 4000000 in
theorem c_X0_awaitedInNumber (l : Launch) (E : gEnv) (ch : Nat) (ea : Nat) (nx : Nat) (hc : ch < 128) : gM l yX0_awaitedInNumber wsX0_awaitedInNumber ({ frames := 2, cells := 0, slots := 0, locals := 41 } : Room) E [.int (nI ch), .int (nI ea), .int (nI nx)] [] [] (some (.int (nuI ch ea nx))) := by
  refine gM.ofG (cc := cX0_awaitedInNumber) (nL := 3) (ret := (some .int)) (own := RX0) [(0, .int (nI ch)), (1, .int (nI ea)), (2, .int (nI nx))] (by decide) rfl rfl (Nat.le_of_ble_eq_true rfl) rfl rfl ?_
  intro pX eX sX mX bX tX cX A cx
  refine g_iload_n cx dX0_awaitedInNumber_0 rfl ?_
  refine g_bipush cx dX0_awaitedInNumber_1 kc_b48 ?_
  refine g_icmp_ne (tgt := 10) cx dX0_awaitedInNumber_3 (by decide) (fun z1 => ?_) (fun z1 => ?_)
  ·
    have z1 := gn_ne (a := ch) (b := 48) z1
    refine g_iload_n cx dX0_awaitedInNumber_10 rfl ?_
    refine g_iload_n cx dX0_awaitedInNumber_11 rfl ?_
    refine g_callS (ws' := []) (As := [.int (nI ch), .int (nI nx)]) (rest := []) (n := 2) cx (c_X0_awaitedAfterDigit l E ch nx ) gX0_awaitedInNumber_X0_awaitedAfterDigit rfl (by decide +kernel) rfl rfl ⟨Nat.le_of_ble_eq_true rfl, Nat.le_of_ble_eq_true rfl⟩ ⟨Nat.zero_le _, Nat.zero_le _⟩ [] (by decide) rfl rfl rfl rfl (Nat.le_of_ble_eq_true rfl) dX0_awaitedInNumber_12 ?_
    exact g_iretE cx dX0_awaitedInNumber_15 (rfl) (by first | exact (if_pos (by assumption)).symm | exact (if_neg (by assumption)).symm)
  ·
    have z1 := gn_eq (a := ch) (b := 48) (by first | omega | exact hT _ | exact Nat.lt_trans (hT _) (by decide)) (by first | omega | exact hT _ | exact Nat.lt_trans (hT _) (by decide)) z1
    refine g_iload_n cx dX0_awaitedInNumber_6 rfl ?_
    refine g_goto (tgt := 15) cx dX0_awaitedInNumber_7 (by decide) ?_
    exact g_iretE cx dX0_awaitedInNumber_15 (rfl) (by first | exact (if_pos (by assumption)).symm | exact (if_neg (by assumption)).symm)
set_option maxRecDepth 100000 in
set_option maxHeartbeats 4000000 in
theorem c_X0_characterAt (l : Launch) (E : gEnv) (h : Nat) (a : Nat) (T : Nat → Nat) (n : Nat) (i : Nat) (hn : n ≤ 80) (hT : ∀ j, T j < 128) (hi : i < 2 ^ 31) : gM l yX0_characterAt wsX0_characterAt ({ frames := 0, cells := 0, slots := 0, locals := 0 } : Room) E [.ref h, .int (nI i)] [(h, .inr (0, [.ref a, .int (nI n)])), (a, .inl (E.2.1 1, 80, .inl (fun j => nI (T j))))] [(h, .inr (0, [.ref a, .int (nI n)])), (a, .inl (E.2.1 1, 80, .inl (fun j => nI (T j))))] (some (.int (nI (chr T n i)))) := by
  refine gM.ofG (cc := cX0_characterAt) (nL := 2) (ret := (some .char)) (own := RX0) [(0, .ref h), (1, .int (nI i))] (by decide) rfl rfl (Nat.le_of_ble_eq_true rfl) rfl rfl ?_
  intro pX eX sX mX bX tX cX A cx
  have hiX0 : ∀ w ∈ u_ws RX0 TX0 2, w ∈ wsX0_characterAt := by decide +kernel
  refine g_iload_n cx dX0_characterAt_0 rfl ?_
  refine g_if_lt (tgt := 21) cx dX0_characterAt_1 (by decide) (fun z1 => absurd z1 (nI_pos (by omega))) (fun z1 => ?_)
  have z1 := gn_nlt (a := i) (b := 0) (by omega) (by omega) z1
  refine g_iload_n cx dX0_characterAt_4 rfl ?_
  refine g_aload_n cx dX0_characterAt_5 rfl ?_
  refine g_get (C := RX0) (T := TX0) (N := 2) (ci := 0) cx hiX0 0 1 (by decide) rfl (by decide +kernel) rfl rfl dX0_characterAt_6 ?_
  refine g_icmp_ge (tgt := 21) cx dX0_characterAt_9 (by decide) (fun z2 => ?_) (fun z2 => ?_)
  ·
    have z2 := gn_le (a := n) (b := i) (by first | omega | exact hT _ | exact Nat.lt_trans (hT _) (by decide)) (by first | omega | exact hT _ | exact Nat.lt_trans (hT _) (by decide)) z2
    refine g_bipush cx dX0_characterAt_21 kc_b32 ?_
    exact g_zretE cx (by decide +kernel) dX0_characterAt_23 (rfl) (congrArg nI (by unfold chr; first | rw [if_pos (by assumption)] | rw [if_neg (by omega)]))
  ·
    have z2 := gn_nle (a := n) (b := i) (by first | omega | exact hT _ | exact Nat.lt_trans (hT _) (by decide)) (by first | omega | exact hT _ | exact Nat.lt_trans (hT _) (by decide)) z2
    refine g_aload_n cx dX0_characterAt_12 rfl ?_
    refine g_get (C := RX0) (T := TX0) (N := 2) (ci := 0) cx hiX0 0 0 (by decide) rfl (by decide +kernel) rfl rfl dX0_characterAt_13 ?_
    refine g_iload_n cx dX0_characterAt_16 rfl ?_
    refine g_cald cx 1 rfl rfl (vp_in_nI (by omega) (by omega)) (by rw [nI_clamp (by omega)]) dX0_characterAt_17 ?_
    refine g_goto (tgt := 23) cx dX0_characterAt_18 (by decide) ?_
    exact g_zretE cx ((pk_charN (by first | omega | (have := hT i; omega))).1) dX0_characterAt_23 (rfl) (congrArg nI (by unfold chr; first | rw [if_pos (by assumption)] | rw [if_neg (by omega)]))
set_option maxRecDepth 100000 in
set_option maxHeartbeats 4000000 in
theorem c_X0_beginsCommand (l : Launch) (E : gEnv) (h : Nat) (a : Nat) (T : Nat → Nat) (n : Nat) (i : Nat) (hn : n ≤ 80) (hT : ∀ j, T j < 128) (hi : i ≤ 80) : gM l yX0_beginsCommand wsX0_beginsCommand ({ frames := 1, cells := 0, slots := 0, locals := 21 } : Room) E [.ref h, .int (nI i)] [(h, .inr (0, [.ref a, .int (nI n)])), (a, .inl (E.2.1 1, 80, .inl (fun j => nI (T j))))] [(h, .inr (0, [.ref a, .int (nI n)])), (a, .inl (E.2.1 1, 80, .inl (fun j => nI (T j))))] (some (.int (gB (bgc T n i)))) := by
  refine gM.ofG (cc := cX0_beginsCommand) (nL := 2) (ret := (some .boolean)) (own := RX0) [(0, .ref h), (1, .int (nI i))] (by decide) rfl rfl (Nat.le_of_ble_eq_true rfl) rfl rfl ?_
  intro pX eX sX mX bX tX cX A cx
  have hch : ∀ k, chr T n k < 128 := fun k => by unfold chr; split; exact hT k; omega
  have hch2 := hch (i - 1)
  refine g_iload_n cx dX0_beginsCommand_0 rfl ?_
  refine g_if_eq (tgt := 16) cx dX0_beginsCommand_1 (by decide) (fun z1 => ?_) (fun z1 => ?_)
  ·
    have z1 := gn_eq0 (by omega) z1
    refine g_iconst cx dX0_beginsCommand_16 kc_i1 ?_
    refine g_goto (tgt := 21) cx dX0_beginsCommand_17 (by decide) ?_
    exact g_zretE cx (by decide +kernel) dX0_beginsCommand_21 (rfl) (by first | exact gB_of (decide_eq_true (by omega)) | exact gB_off (decide_eq_false (by omega)))
  ·
    have z1 := gn_ne0 z1
    refine g_aload_n cx dX0_beginsCommand_4 rfl ?_
    refine g_iload_n cx dX0_beginsCommand_5 rfl ?_
    refine g_iconst cx dX0_beginsCommand_6 kc_i1 ?_
    refine g_isub cx dX0_beginsCommand_7 ?_
    refine g_top (pk_sub (a := i) (b := 1) (by omega)) ?_
    refine g_callV (ws' := [(h, .inr (0, [.ref a, .int (nI n)])), (a, .inl (E.2.1 1, 80, .inl (fun j => nI (T j))))]) (As := [.int (nI (i - 1))]) (rest := []) (n := 1) (T := TX0) (N := 2) (ci := 0) cx (c_X0_characterAt l E h a T n (i - 1) (by first | omega | exact hT _ | exact Nat.lt_trans (hT _) (by decide)) hT (by first | omega | exact hT _ | exact Nat.lt_trans (hT _) (by decide))) gX0_beginsCommand_X0_characterAt rfl (by decide +kernel) rfl rfl ⟨Nat.le_of_ble_eq_true rfl, Nat.le_of_ble_eq_true rfl⟩ ⟨Nat.zero_le _, Nat.zero_le _⟩ [0, 1] 0 rfl rfl (by decide) rfl rfl rfl rfl (Nat.le_of_ble_eq_true rfl) dX0_beginsCommand_8 ?_
    refine g_bipush cx dX0_beginsCommand_11 kc_b59 ?_
    refine g_icmp_ne (tgt := 20) cx dX0_beginsCommand_13 (by decide) (fun z2 => ?_) (fun z2 => ?_)
    ·
      have z2 := gn_ne (a := chr T n (i - 1)) (b := 59) z2
      refine g_iconst cx dX0_beginsCommand_20 kc_i0 ?_
      exact g_zretE cx (by decide +kernel) dX0_beginsCommand_21 (rfl) (by first | exact gB_of (decide_eq_true (by omega)) | exact gB_off (decide_eq_false (by omega)))
    ·
      have z2 := gn_eq (a := chr T n (i - 1)) (b := 59) (by first | omega | exact hT _ | exact Nat.lt_trans (hT _) (by decide)) (by first | omega | exact hT _ | exact Nat.lt_trans (hT _) (by decide)) z2
      refine g_iconst cx dX0_beginsCommand_16 kc_i1 ?_
      refine g_goto (tgt := 21) cx dX0_beginsCommand_17 (by decide) ?_
      exact g_zretE cx (by decide +kernel) dX0_beginsCommand_21 (rfl) (by first | exact gB_of (decide_eq_true (by omega)) | exact gB_off (decide_eq_false (by omega)))
set_option maxRecDepth 100000 in
set_option maxHeartbeats 4000000 in
theorem c_X0_find (l : Launch) (E : gEnv) (h : Nat) (a : Nat) (T : Nat → Nat) (n : Nat) (k : Nat) (i : Nat) (hn : n ≤ 80) (hT : ∀ j, T j < 128) (hk : k < 128) (hi : i ≤ 80) : gM l yX0_find wsX0_find ({ frames := 1, cells := 0, slots := 0, locals := 40 } : Room) E [.ref h, .int (nI k), .int (nI i)] [(h, .inr (0, [.ref a, .int (nI n)])), (a, .inl (E.2.1 1, 80, .inl (fun j => nI (T j))))] [(h, .inr (0, [.ref a, .int (nI n)])), (a, .inl (E.2.1 1, 80, .inl (fun j => nI (T j))))] (some (.int (nI (fnd T n k (n - i) i)))) := by
  refine gM.ofG (cc := cX0_find) (nL := 4) (ret := (some .int)) (own := RX0) [(0, .ref h), (1, .int (nI k)), (2, .int (nI i))] (by decide) rfl rfl (Nat.le_of_ble_eq_true rfl) rfl rfl ?_
  intro pX eX sX mX bX tX cX A cx
  have hiX0 : ∀ w ∈ u_ws RX0 TX0 2, w ∈ wsX0_find := by decide +kernel
  refine g_iload_n cx dX0_find_0 rfl ?_
  refine g_iconst cx dX0_find_1 kc_i0 ?_
  refine g_mmax cx (by decide +kernel) (by decide +kernel) (by decide +kernel) (by decide +kernel) (Nat.le_of_ble_eq_true rfl) (Nat.le_of_ble_eq_true rfl) ⟨Nat.zero_le _, Nat.zero_le _⟩ dX0_find_2 ?_
  refine g_top (show (if nI i < nI 0 then nI 0 else nI i) = nI i from gmax0 (by omega)) ?_
  refine g_istore_n (lv' := [(3, .int (nI i)), (0, .ref h), (1, .int (nI k)), (2, .int (nI i))]) cx dX0_find_5 rfl (by decide) rfl ?_
  have L6 : ∀ (n_ : Nat) (x : Nat), n - x < n_ → fnd T n k (n - x) x = fnd T n k (n - i) i → i ≤ x → x ≤ 80 → gG pX l eX ({ frames := 1, cells := 0, slots := 0, locals := 40 } : Room) sX mX ([.ref h, .int (nI k), .int (nI i)] : List Value).toArray bX tX cX 4 E A (MQ bX (gQ E [(h, .inr (0, [.ref a, .int (nI n)])), (a, .inl (E.2.1 1, 80, .inl (fun j => nI (T j))))] (some (.int (nI (fnd T n k (n - i) i)))) A) ([.ref h, .int (nI k), .int (nI i)] : List Value).toArray sX 0 0 A) 0 0 [(h, .inr (0, [.ref a, .int (nI n)])), (a, .inl (E.2.1 1, 80, .inl (fun j => nI (T j))))] [(0, .ref h), (1, .int (nI k)), (2, .int (nI i)), (3, .int (nI x))] [] 6 := by
    intro n_
    induction n_ with
    | zero => intro x hm_; exact absurd hm_ (Nat.not_lt_zero _)
    | succ n_ ih_L6 =>
      intro x hm_ he hx hx2
      refine g_iload_n cx dX0_find_6 rfl ?_
      refine g_aload_n cx dX0_find_7 rfl ?_
      refine g_get (C := RX0) (T := TX0) (N := 2) (ci := 0) cx hiX0 0 1 (by decide) rfl (by decide +kernel) rfl rfl dX0_find_8 ?_
      refine g_icmp_ge (tgt := 30) cx dX0_find_11 (by decide) (fun z1 => ?_) (fun z1 => ?_)
      ·
        have z1 := gn_le (a := n) (b := x) (by first | omega | exact hT _ | exact Nat.lt_trans (hT _) (by decide)) (by first | omega | exact hT _ | exact Nat.lt_trans (hT _) (by decide)) z1
        refine g_iload_n cx dX0_find_30 rfl ?_
        exact g_iretE cx dX0_find_31 (rfl) (by rw [← he, fnd_stop (by first | (intro z; omega) | (intro z; exact z.2 (by assumption)))])
      ·
        have z1 := gn_nle (a := n) (b := x) (by first | omega | exact hT _ | exact Nat.lt_trans (hT _) (by decide)) (by first | omega | exact hT _ | exact Nat.lt_trans (hT _) (by decide)) z1
        refine g_aload_n cx dX0_find_14 rfl ?_
        refine g_get (C := RX0) (T := TX0) (N := 2) (ci := 0) cx hiX0 0 0 (by decide) rfl (by decide +kernel) rfl rfl dX0_find_15 ?_
        refine g_iload_n cx dX0_find_18 rfl ?_
        refine g_cald cx 1 rfl rfl (vp_in_nI (by omega) (by omega)) (by rw [nI_clamp (by omega)]) dX0_find_19 ?_
        refine g_iload_n cx dX0_find_20 rfl ?_
        refine g_icmp_eq (tgt := 30) cx dX0_find_21 (by decide) (fun z2 => ?_) (fun z2 => ?_)
        ·
          have z2 := gn_eq (a := T x) (b := k) (by first | omega | exact hT _ | exact Nat.lt_trans (hT _) (by decide)) (by first | omega | exact hT _ | exact Nat.lt_trans (hT _) (by decide)) z2
          refine g_iload_n cx dX0_find_30 rfl ?_
          exact g_iretE cx dX0_find_31 (rfl) (by rw [← he, fnd_stop (by first | (intro z; omega) | (intro z; exact z.2 (by assumption)))])
        ·
          have z2 := gn_ne (a := T x) (b := k) z2
          refine g_iinc (lv' := [(3, .int (nI (x + 1))), (0, .ref h), (1, .int (nI k)), (2, .int (nI i))]) (k := 3) cx dX0_find_24 rfl (gn_inc1 x) (by decide) rfl ?_
          refine g_goto (tgt := 6) cx dX0_find_27 (by decide) ?_
          refine g_lv [1, 2, 3, 0] rfl ?_
          exact ih_L6 (x + 1) (by omega) ((fnd_go (by omega) (by assumption)).symm.trans he) (by omega) (by omega)
  refine g_lv [1, 2, 3, 0] rfl ?_
  exact L6 (n - i + 1) i (by omega) rfl (by omega) (by omega)
set_option maxRecDepth 100000 in
set_option maxHeartbeats 4000000 in
theorem c_X0_numberAt (l : Launch) (E : gEnv) (h : Nat) (a : Nat) (T : Nat → Nat) (n : Nat) (i : Nat) (hn : n ≤ 80) (hT : ∀ j, T j < 128) (hi : i ≤ 80) : gM l yX0_numberAt wsX0_numberAt ({ frames := 1, cells := 0, slots := 0, locals := 40 } : Room) E [.ref h, .int (nI i)] [(h, .inr (0, [.ref a, .int (nI n)])), (a, .inl (E.2.1 1, 80, .inl (fun j => nI (T j))))] [(h, .inr (0, [.ref a, .int (nI n)])), (a, .inl (E.2.1 1, 80, .inl (fun j => nI (T j))))] (some (.int (nI (nmb T n (n - i) i 0)))) := by
  refine gM.ofG (cc := cX0_numberAt) (nL := 4) (ret := (some .int)) (own := RX0) [(0, .ref h), (1, .int (nI i))] (by decide) rfl rfl (Nat.le_of_ble_eq_true rfl) rfl rfl ?_
  intro pX eX sX mX bX tX cX A cx
  have hiX0 : ∀ w ∈ u_ws RX0 TX0 2, w ∈ wsX0_numberAt := by decide +kernel
  refine g_iconst cx dX0_numberAt_0 kc_i0 ?_
  refine g_istore_n (lv' := [(2, .int (nI 0)), (0, .ref h), (1, .int (nI i))]) cx dX0_numberAt_1 rfl (by decide) rfl ?_
  refine g_iload_n cx dX0_numberAt_2 rfl ?_
  refine g_iconst cx dX0_numberAt_3 kc_i0 ?_
  refine g_mmax cx (by decide +kernel) (by decide +kernel) (by decide +kernel) (by decide +kernel) (Nat.le_of_ble_eq_true rfl) (Nat.le_of_ble_eq_true rfl) ⟨Nat.zero_le _, Nat.zero_le _⟩ dX0_numberAt_4 ?_
  refine g_top (show (if nI i < nI 0 then nI 0 else nI i) = nI i from gmax0 (by omega)) ?_
  refine g_istore_n (lv' := [(3, .int (nI i)), (2, .int (nI 0)), (0, .ref h), (1, .int (nI i))]) cx dX0_numberAt_7 rfl (by decide) rfl ?_
  have L8 : ∀ (n_ : Nat) (x : Nat) (v : Nat), n - x < n_ → nmb T n (n - x) x v = nmb T n (n - i) i 0 → i ≤ x → x ≤ 80 → gG pX l eX ({ frames := 1, cells := 0, slots := 0, locals := 40 } : Room) sX mX ([.ref h, .int (nI i)] : List Value).toArray bX tX cX 4 E A (MQ bX (gQ E [(h, .inr (0, [.ref a, .int (nI n)])), (a, .inl (E.2.1 1, 80, .inl (fun j => nI (T j))))] (some (.int (nI (nmb T n (n - i) i 0)))) A) ([.ref h, .int (nI i)] : List Value).toArray sX 0 0 A) 0 0 [(h, .inr (0, [.ref a, .int (nI n)])), (a, .inl (E.2.1 1, 80, .inl (fun j => nI (T j))))] [(0, .ref h), (1, .int (nI i)), (2, .int (nI v)), (3, .int (nI x))] [] 8 := by
    intro n_
    induction n_ with
    | zero => intro x v hm_; exact absurd hm_ (Nat.not_lt_zero _)
    | succ n_ ih_L8 =>
      intro x v hm_ he hx hx2
      refine g_iload_n cx dX0_numberAt_8 rfl ?_
      refine g_aload_n cx dX0_numberAt_9 rfl ?_
      refine g_get (C := RX0) (T := TX0) (N := 2) (ci := 0) cx hiX0 0 1 (by decide) rfl (by decide +kernel) rfl rfl dX0_numberAt_10 ?_
      refine g_icmp_ge (tgt := 49) cx dX0_numberAt_13 (by decide) (fun z1 => ?_) (fun z1 => ?_)
      ·
        have z1 := gn_le (a := n) (b := x) (by first | omega | exact hT _ | exact Nat.lt_trans (hT _) (by decide)) (by first | omega | exact hT _ | exact Nat.lt_trans (hT _) (by decide)) z1
        refine g_iload_n cx dX0_numberAt_49 rfl ?_
        exact g_iretE cx dX0_numberAt_50 (rfl) (by rw [← he, nmb_stop (by first | (intro z; omega) | (intro z; simp_all))])
      ·
        have z1 := gn_nle (a := n) (b := x) (by first | omega | exact hT _ | exact Nat.lt_trans (hT _) (by decide)) (by first | omega | exact hT _ | exact Nat.lt_trans (hT _) (by decide)) z1
        refine g_aload_n cx dX0_numberAt_16 rfl ?_
        refine g_get (C := RX0) (T := TX0) (N := 2) (ci := 0) cx hiX0 0 0 (by decide) rfl (by decide +kernel) rfl rfl dX0_numberAt_17 ?_
        refine g_iload_n cx dX0_numberAt_20 rfl ?_
        refine g_cald cx 1 rfl rfl (vp_in_nI (by omega) (by omega)) (by rw [nI_clamp (by omega)]) dX0_numberAt_21 ?_
        refine g_callS (ws' := [(h, .inr (0, [.ref a, .int (nI n)])), (a, .inl (E.2.1 1, 80, .inl (fun j => nI (T j))))]) (As := [.int (nI (T x))]) (rest := []) (n := 1) cx (c_X0_isDigit l E (nI (T x)) ) gX0_numberAt_X0_isDigit rfl (by decide +kernel) rfl rfl ⟨Nat.le_of_ble_eq_true rfl, Nat.le_of_ble_eq_true rfl⟩ ⟨Nat.zero_le _, Nat.zero_le _⟩ [] (by decide) rfl rfl rfl rfl (Nat.le_of_ble_eq_true rfl) dX0_numberAt_22 ?_
        refine g_if_eq (tgt := 49) cx dX0_numberAt_25 (by decide) (fun z2 => ?_) (fun z2 => ?_)
        ·
          have z2 := gB_eq0 z2
          refine g_iload_n cx dX0_numberAt_49 rfl ?_
          exact g_iretE cx dX0_numberAt_50 (rfl) (by rw [← he, nmb_stop (by first | (intro z; omega) | (intro z; simp_all))])
        ·
          have z2 := gB_ne0 z2
          refine g_bipush cx dX0_numberAt_28 kc_b10 ?_
          refine g_iload_n cx dX0_numberAt_30 rfl ?_
          refine g_imul cx dX0_numberAt_31 ?_
          refine g_top (pk_mul 10 v) ?_
          refine g_aload_n cx dX0_numberAt_32 rfl ?_
          refine g_get (C := RX0) (T := TX0) (N := 2) (ci := 0) cx hiX0 0 0 (by decide) rfl (by decide +kernel) rfl rfl dX0_numberAt_33 ?_
          refine g_iload_n cx dX0_numberAt_36 rfl ?_
          refine g_cald cx 1 rfl rfl (vp_in_nI (by omega) (by omega)) (by rw [nI_clamp (by omega)]) dX0_numberAt_37 ?_
          refine g_bipush cx dX0_numberAt_38 kc_b48 ?_
          have hd9 : 48 ≤ T x ∧ T x ≤ 57 := bR_N (by have := hT x; omega) (by assumption)
          refine g_isub cx dX0_numberAt_40 ?_
          refine g_top (pk_sub (a := T x) (b := 48) (by omega)) ?_
          refine g_iadd cx dX0_numberAt_41 ?_
          refine g_top (nI_add (10 * v) ((T x) - 48)) ?_
          refine g_istore_n (lv' := [(2, .int (nI ((10 * v) + ((T x) - 48)))), (0, .ref h), (1, .int (nI i)), (3, .int (nI x))]) cx dX0_numberAt_42 rfl (by decide) rfl ?_
          refine g_iinc (lv' := [(3, .int (nI (x + 1))), (2, .int (nI ((10 * v) + ((T x) - 48)))), (0, .ref h), (1, .int (nI i))]) (k := 3) cx dX0_numberAt_43 rfl (gn_inc1 x) (by decide) rfl ?_
          refine g_goto (tgt := 8) cx dX0_numberAt_46 (by decide) ?_
          refine g_lv [2, 3, 1, 0] rfl ?_
          exact ih_L8 (x + 1) ((10 * v) + ((T x) - 48)) (by omega) ((nmb_go (by omega) (by assumption)).symm.trans he) (by omega) (by omega)
  refine g_lv [2, 3, 1, 0] rfl ?_
  exact L8 (n - i + 1) i 0 (by omega) rfl (by omega) (by omega)
set_option maxRecDepth 100000 in
set_option maxHeartbeats 4000000 in
theorem c_X0_awaitedAfterCommand (l : Launch) (E : gEnv) (ch : Nat) (hc : ch < 128) : gM l yX0_awaitedAfterCommand wsX0_awaitedAfterCommand ({ frames := 0, cells := 0, slots := 0, locals := 0 } : Room) E [.int (nI ch)] [] [] (some (.int (cmI ch))) := by
  refine gM.ofG (cc := cX0_awaitedAfterCommand) (nL := 1) (ret := (some .int)) (own := RX0) [(0, .int (nI ch))] (by decide) rfl rfl (Nat.le_of_ble_eq_true rfl) rfl rfl ?_
  intro pX eX sX mX bX tX cX A cx
  refine g_iload_n cx dX0_awaitedAfterCommand_0 rfl ?_
  by_cases h103_ : ch = 103
  ·
    refine g_lookup (x := nI ch) (tgt := 52) cx dX0_awaitedAfterCommand_1 (by decide +kernel) (show _ = (51 : Int) from by rw [h103_]; decide +kernel) (by decide) ?_
    refine g_iconst cx dX0_awaitedAfterCommand_52 kc_i1 ?_
    exact g_iretE cx dX0_awaitedAfterCommand_53 (rfl) (by first | (rw [h103_]; decide +kernel) | (rw [h105_]; decide +kernel) | (rw [h114_]; decide +kernel) | (rw [h116_]; decide +kernel) | (rw [h119_]; decide +kernel) | (unfold cmI; rw [if_neg h103_, if_neg h116_, if_neg h114_, if_neg (by omega)]))
  ·
    by_cases h105_ : ch = 105
    ·
      refine g_lookup (x := nI ch) (tgt := 59) cx dX0_awaitedAfterCommand_1 (by decide +kernel) (show _ = (58 : Int) from by rw [h105_]; decide +kernel) (by decide) ?_
      refine g_bipush cx dX0_awaitedAfterCommand_59 kc_b9 ?_
      exact g_iretE cx dX0_awaitedAfterCommand_61 (rfl) (by first | (rw [h103_]; decide +kernel) | (rw [h105_]; decide +kernel) | (rw [h114_]; decide +kernel) | (rw [h116_]; decide +kernel) | (rw [h119_]; decide +kernel) | (unfold cmI; rw [if_neg h103_, if_neg h116_, if_neg h114_, if_neg (by omega)]))
    ·
      by_cases h114_ : ch = 114
      ·
        refine g_lookup (x := nI ch) (tgt := 56) cx dX0_awaitedAfterCommand_1 (by decide +kernel) (show _ = (55 : Int) from by rw [h114_]; decide +kernel) (by decide) ?_
        refine g_bipush cx dX0_awaitedAfterCommand_56 kc_b8 ?_
        exact g_iretE cx dX0_awaitedAfterCommand_58 (rfl) (by first | (rw [h103_]; decide +kernel) | (rw [h105_]; decide +kernel) | (rw [h114_]; decide +kernel) | (rw [h116_]; decide +kernel) | (rw [h119_]; decide +kernel) | (unfold cmI; rw [if_neg h103_, if_neg h116_, if_neg h114_, if_neg (by omega)]))
      ·
        by_cases h116_ : ch = 116
        ·
          refine g_lookup (x := nI ch) (tgt := 54) cx dX0_awaitedAfterCommand_1 (by decide +kernel) (show _ = (53 : Int) from by rw [h116_]; decide +kernel) (by decide) ?_
          refine g_iconst cx dX0_awaitedAfterCommand_54 kc_i5 ?_
          exact g_iretE cx dX0_awaitedAfterCommand_55 (rfl) (by first | (rw [h103_]; decide +kernel) | (rw [h105_]; decide +kernel) | (rw [h114_]; decide +kernel) | (rw [h116_]; decide +kernel) | (rw [h119_]; decide +kernel) | (unfold cmI; rw [if_neg h103_, if_neg h116_, if_neg h114_, if_neg (by omega)]))
        ·
          by_cases h119_ : ch = 119
          ·
            refine g_lookup (x := nI ch) (tgt := 59) cx dX0_awaitedAfterCommand_1 (by decide +kernel) (show _ = (58 : Int) from by rw [h119_]; decide +kernel) (by decide) ?_
            refine g_bipush cx dX0_awaitedAfterCommand_59 kc_b9 ?_
            exact g_iretE cx dX0_awaitedAfterCommand_61 (rfl) (by first | (rw [h103_]; decide +kernel) | (rw [h105_]; decide +kernel) | (rw [h114_]; decide +kernel) | (rw [h116_]; decide +kernel) | (rw [h119_]; decide +kernel) | (unfold cmI; rw [if_neg h103_, if_neg h116_, if_neg h114_, if_neg (by omega)]))
          ·
            refine g_lookup (x := nI ch) (tgt := 62) cx dX0_awaitedAfterCommand_1 (by decide +kernel) (show _ = (61 : Int) from (by rw [nI_toInt (by omega)]; exact (by show Op.lookupswitch.offset [(103, 51), (105, 58), (114, 55), (116, 53), (119, 58)] 61 _ = _; exact lk_a ch hc h103_ h105_ h114_ h116_ h119_))) (by decide) ?_
            refine g_iconst cx dX0_awaitedAfterCommand_62 kc_im1 ?_
            exact g_iretE cx dX0_awaitedAfterCommand_63 (rfl) (by first | (rw [h103_]; decide +kernel) | (rw [h105_]; decide +kernel) | (rw [h114_]; decide +kernel) | (rw [h116_]; decide +kernel) | (rw [h119_]; decide +kernel) | (unfold cmI; rw [if_neg h103_, if_neg h116_, if_neg h114_, if_neg (by omega)]))
set_option maxRecDepth 100000 in
set_option maxHeartbeats 4000000 in
theorem c_X0_awaitedAfter (l : Launch) (E : gEnv) (aw_ : Nat) (ch : Nat) (ha : aw_ < 10) (hc : ch < 128) : gM l yX0_awaitedAfter wsX0_awaitedAfter ({ frames := 3, cells := 0, slots := 0, locals := 63 } : Room) E [.int (nI aw_), .int (nI ch)] [] [] (some (.int (awI aw_ ch))) := by
  refine gM.ofG (cc := cX0_awaitedAfter) (nL := 2) (ret := (some .int)) (own := RX0) [(0, .int (nI aw_)), (1, .int (nI ch))] (by decide) rfl rfl (Nat.le_of_ble_eq_true rfl) rfl rfl ?_
  intro pX eX sX mX bX tX cX A cx
  refine g_iload_n cx dX0_awaitedAfter_0 rfl ?_
  rcases (show aw_ = 0 ∨ aw_ = 1 ∨ aw_ = 2 ∨ aw_ = 3 ∨ aw_ = 4 ∨ aw_ = 5 ∨ aw_ = 6 ∨ aw_ = 7 ∨ aw_ = 8 ∨ aw_ = 9 from by omega) with rfl | rfl | rfl | rfl | rfl | rfl | rfl | rfl | rfl | rfl
  ·
    refine g_tableIn (x := nI 0) (tgt := 52) cx dX0_awaitedAfter_1 (by decide +kernel) (by decide +kernel) (show _ = some (51 : Int) from by decide +kernel) (by decide) ?_
    refine g_iload_n cx dX0_awaitedAfter_52 rfl ?_
    refine g_callS (ws' := []) (As := [.int (nI ch)]) (rest := []) (n := 1) cx (c_X0_awaitedAfterCommand l E ch (by omega)) gX0_awaitedAfter_X0_awaitedAfterCommand rfl (by decide +kernel) rfl rfl ⟨Nat.le_of_ble_eq_true rfl, Nat.le_of_ble_eq_true rfl⟩ ⟨Nat.zero_le _, Nat.zero_le _⟩ [] (by decide) rfl rfl rfl rfl (Nat.le_of_ble_eq_true rfl) dX0_awaitedAfter_53 ?_
    exact g_iretE cx dX0_awaitedAfter_56 (rfl) (by first | rfl | exact (if_pos (by assumption)).symm | exact (if_neg (by assumption)).symm)
  ·
    refine g_tableIn (x := nI 1) (tgt := 57) cx dX0_awaitedAfter_1 (by decide +kernel) (by decide +kernel) (show _ = some (56 : Int) from by decide +kernel) (by decide) ?_
    refine g_iload_n cx dX0_awaitedAfter_57 rfl ?_
    refine g_iconst cx dX0_awaitedAfter_58 kc_i4 ?_
    refine g_iconst cx dX0_awaitedAfter_59 kc_i2 ?_
    refine g_callS (ws' := []) (As := [.int (nI ch), .int (nI 4), .int (nI 2)]) (rest := []) (n := 3) cx (c_X0_awaitedInNumber l E ch 4 2 (by omega)) gX0_awaitedAfter_X0_awaitedInNumber rfl (by decide +kernel) rfl rfl ⟨Nat.le_of_ble_eq_true rfl, Nat.le_of_ble_eq_true rfl⟩ ⟨Nat.zero_le _, Nat.zero_le _⟩ [] (by decide) rfl rfl rfl rfl (Nat.le_of_ble_eq_true rfl) dX0_awaitedAfter_60 ?_
    exact g_iretE cx dX0_awaitedAfter_63 (rfl) (by first | rfl | exact (if_pos (by assumption)).symm | exact (if_neg (by assumption)).symm)
  ·
    refine g_tableIn (x := nI 2) (tgt := 64) cx dX0_awaitedAfter_1 (by decide +kernel) (by decide +kernel) (show _ = some (63 : Int) from by decide +kernel) (by decide) ?_
    refine g_iload_n cx dX0_awaitedAfter_64 rfl ?_
    refine g_bipush cx dX0_awaitedAfter_65 kc_b61 ?_
    refine g_icmp_ne (tgt := 74) cx dX0_awaitedAfter_67 (by decide) (fun z1 => ?_) (fun z1 => ?_)
    ·
      have z1 := gn_ne (a := ch) (b := 61) z1
      refine g_iload_n cx dX0_awaitedAfter_74 rfl ?_
      refine g_iconst cx dX0_awaitedAfter_75 kc_i3 ?_
      refine g_callS (ws' := []) (As := [.int (nI ch), .int (nI 3)]) (rest := []) (n := 2) cx (c_X0_awaitedAfterDigit l E ch 3 ) gX0_awaitedAfter_X0_awaitedAfterDigit rfl (by decide +kernel) rfl rfl ⟨Nat.le_of_ble_eq_true rfl, Nat.le_of_ble_eq_true rfl⟩ ⟨Nat.zero_le _, Nat.zero_le _⟩ [] (by decide) rfl rfl rfl rfl (Nat.le_of_ble_eq_true rfl) dX0_awaitedAfter_76 ?_
      exact g_iretE cx dX0_awaitedAfter_79 (rfl) (by first | rfl | exact (if_pos (by assumption)).symm | exact (if_neg (by assumption)).symm)
    ·
      have z1 := gn_eq (a := ch) (b := 61) (by omega) (by omega) z1
      refine g_iconst cx dX0_awaitedAfter_70 kc_i5 ?_
      refine g_goto (tgt := 79) cx dX0_awaitedAfter_71 (by decide) ?_
      exact g_iretE cx dX0_awaitedAfter_79 (rfl) (by first | rfl | exact (if_pos (by assumption)).symm | exact (if_neg (by assumption)).symm)
  ·
    refine g_tableIn (x := nI 3) (tgt := 80) cx dX0_awaitedAfter_1 (by decide +kernel) (by decide +kernel) (show _ = some (79 : Int) from by decide +kernel) (by decide) ?_
    refine g_iload_n cx dX0_awaitedAfter_80 rfl ?_
    refine g_bipush cx dX0_awaitedAfter_81 kc_b61 ?_
    refine g_icmp_ne (tgt := 90) cx dX0_awaitedAfter_83 (by decide) (fun z2 => ?_) (fun z2 => ?_)
    ·
      have z2 := gn_ne (a := ch) (b := 61) z2
      refine g_iload_n cx dX0_awaitedAfter_90 rfl ?_
      refine g_iconst cx dX0_awaitedAfter_91 kc_i4 ?_
      refine g_callS (ws' := []) (As := [.int (nI ch), .int (nI 4)]) (rest := []) (n := 2) cx (c_X0_awaitedAfterDigit l E ch 4 ) gX0_awaitedAfter_X0_awaitedAfterDigit rfl (by decide +kernel) rfl rfl ⟨Nat.le_of_ble_eq_true rfl, Nat.le_of_ble_eq_true rfl⟩ ⟨Nat.zero_le _, Nat.zero_le _⟩ [] (by decide) rfl rfl rfl rfl (Nat.le_of_ble_eq_true rfl) dX0_awaitedAfter_92 ?_
      exact g_iretE cx dX0_awaitedAfter_95 (rfl) (by first | rfl | exact (if_pos (by assumption)).symm | exact (if_neg (by assumption)).symm)
    ·
      have z2 := gn_eq (a := ch) (b := 61) (by omega) (by omega) z2
      refine g_iconst cx dX0_awaitedAfter_86 kc_i5 ?_
      refine g_goto (tgt := 95) cx dX0_awaitedAfter_87 (by decide) ?_
      exact g_iretE cx dX0_awaitedAfter_95 (rfl) (by first | rfl | exact (if_pos (by assumption)).symm | exact (if_neg (by assumption)).symm)
  ·
    refine g_tableIn (x := nI 4) (tgt := 96) cx dX0_awaitedAfter_1 (by decide +kernel) (by decide +kernel) (show _ = some (95 : Int) from by decide +kernel) (by decide) ?_
    refine g_iload_n cx dX0_awaitedAfter_96 rfl ?_
    refine g_bipush cx dX0_awaitedAfter_97 kc_b61 ?_
    refine g_icmp_ne (tgt := 106) cx dX0_awaitedAfter_99 (by decide) (fun z3 => ?_) (fun z3 => ?_)
    ·
      have z3 := gn_ne (a := ch) (b := 61) z3
      refine g_iconst cx dX0_awaitedAfter_106 kc_im1 ?_
      exact g_iretE cx dX0_awaitedAfter_107 (rfl) (by first | rfl | exact (if_pos (by assumption)).symm | exact (if_neg (by assumption)).symm)
    ·
      have z3 := gn_eq (a := ch) (b := 61) (by omega) (by omega) z3
      refine g_iconst cx dX0_awaitedAfter_102 kc_i5 ?_
      refine g_goto (tgt := 107) cx dX0_awaitedAfter_103 (by decide) ?_
      exact g_iretE cx dX0_awaitedAfter_107 (rfl) (by first | rfl | exact (if_pos (by assumption)).symm | exact (if_neg (by assumption)).symm)
  ·
    refine g_tableIn (x := nI 5) (tgt := 108) cx dX0_awaitedAfter_1 (by decide +kernel) (by decide +kernel) (show _ = some (107 : Int) from by decide +kernel) (by decide) ?_
    refine g_iload_n cx dX0_awaitedAfter_108 rfl ?_
    refine g_bipush cx dX0_awaitedAfter_109 kc_b9 ?_
    refine g_bipush cx dX0_awaitedAfter_111 kc_b6 ?_
    refine g_callS (ws' := []) (As := [.int (nI ch), .int (nI 9), .int (nI 6)]) (rest := []) (n := 3) cx (c_X0_awaitedInNumber l E ch 9 6 (by omega)) gX0_awaitedAfter_X0_awaitedInNumber rfl (by decide +kernel) rfl rfl ⟨Nat.le_of_ble_eq_true rfl, Nat.le_of_ble_eq_true rfl⟩ ⟨Nat.zero_le _, Nat.zero_le _⟩ [] (by decide) rfl rfl rfl rfl (Nat.le_of_ble_eq_true rfl) dX0_awaitedAfter_113 ?_
    exact g_iretE cx dX0_awaitedAfter_116 (rfl) (by first | rfl | exact (if_pos (by assumption)).symm | exact (if_neg (by assumption)).symm)
  ·
    refine g_tableIn (x := nI 6) (tgt := 117) cx dX0_awaitedAfter_1 (by decide +kernel) (by decide +kernel) (show _ = some (116 : Int) from by decide +kernel) (by decide) ?_
    refine g_iload_n cx dX0_awaitedAfter_117 rfl ?_
    refine g_bipush cx dX0_awaitedAfter_118 kc_b59 ?_
    refine g_icmp_ne (tgt := 127) cx dX0_awaitedAfter_120 (by decide) (fun z4 => ?_) (fun z4 => ?_)
    ·
      have z4 := gn_ne (a := ch) (b := 59) z4
      refine g_iload_n cx dX0_awaitedAfter_127 rfl ?_
      refine g_bipush cx dX0_awaitedAfter_128 kc_b7 ?_
      refine g_callS (ws' := []) (As := [.int (nI ch), .int (nI 7)]) (rest := []) (n := 2) cx (c_X0_awaitedAfterDigit l E ch 7 ) gX0_awaitedAfter_X0_awaitedAfterDigit rfl (by decide +kernel) rfl rfl ⟨Nat.le_of_ble_eq_true rfl, Nat.le_of_ble_eq_true rfl⟩ ⟨Nat.zero_le _, Nat.zero_le _⟩ [] (by decide) rfl rfl rfl rfl (Nat.le_of_ble_eq_true rfl) dX0_awaitedAfter_130 ?_
      exact g_iretE cx dX0_awaitedAfter_133 (rfl) (by first | rfl | exact (if_pos (by assumption)).symm | exact (if_neg (by assumption)).symm)
    ·
      have z4 := gn_eq (a := ch) (b := 59) (by omega) (by omega) z4
      refine g_iconst cx dX0_awaitedAfter_123 kc_i0 ?_
      refine g_goto (tgt := 133) cx dX0_awaitedAfter_124 (by decide) ?_
      exact g_iretE cx dX0_awaitedAfter_133 (rfl) (by first | rfl | exact (if_pos (by assumption)).symm | exact (if_neg (by assumption)).symm)
  ·
    refine g_tableIn (x := nI 7) (tgt := 134) cx dX0_awaitedAfter_1 (by decide +kernel) (by decide +kernel) (show _ = some (133 : Int) from by decide +kernel) (by decide) ?_
    refine g_iload_n cx dX0_awaitedAfter_134 rfl ?_
    refine g_bipush cx dX0_awaitedAfter_135 kc_b59 ?_
    refine g_icmp_ne (tgt := 144) cx dX0_awaitedAfter_137 (by decide) (fun z5 => ?_) (fun z5 => ?_)
    ·
      have z5 := gn_ne (a := ch) (b := 59) z5
      refine g_iload_n cx dX0_awaitedAfter_144 rfl ?_
      refine g_bipush cx dX0_awaitedAfter_145 kc_b9 ?_
      refine g_callS (ws' := []) (As := [.int (nI ch), .int (nI 9)]) (rest := []) (n := 2) cx (c_X0_awaitedAfterDigit l E ch 9 ) gX0_awaitedAfter_X0_awaitedAfterDigit rfl (by decide +kernel) rfl rfl ⟨Nat.le_of_ble_eq_true rfl, Nat.le_of_ble_eq_true rfl⟩ ⟨Nat.zero_le _, Nat.zero_le _⟩ [] (by decide) rfl rfl rfl rfl (Nat.le_of_ble_eq_true rfl) dX0_awaitedAfter_147 ?_
      exact g_iretE cx dX0_awaitedAfter_150 (rfl) (by first | rfl | exact (if_pos (by assumption)).symm | exact (if_neg (by assumption)).symm)
    ·
      have z5 := gn_eq (a := ch) (b := 59) (by omega) (by omega) z5
      refine g_iconst cx dX0_awaitedAfter_140 kc_i0 ?_
      refine g_goto (tgt := 150) cx dX0_awaitedAfter_141 (by decide) ?_
      exact g_iretE cx dX0_awaitedAfter_150 (rfl) (by first | rfl | exact (if_pos (by assumption)).symm | exact (if_neg (by assumption)).symm)
  ·
    refine g_tableIn (x := nI 8) (tgt := 151) cx dX0_awaitedAfter_1 (by decide +kernel) (by decide +kernel) (show _ = some (150 : Int) from by decide +kernel) (by decide) ?_
    refine g_iload_n cx dX0_awaitedAfter_151 rfl ?_
    refine g_bipush cx dX0_awaitedAfter_152 kc_b9 ?_
    refine g_callS (ws' := []) (As := [.int (nI ch), .int (nI 9)]) (rest := []) (n := 2) cx (c_X0_awaitedAfterDigit l E ch 9 ) gX0_awaitedAfter_X0_awaitedAfterDigit rfl (by decide +kernel) rfl rfl ⟨Nat.le_of_ble_eq_true rfl, Nat.le_of_ble_eq_true rfl⟩ ⟨Nat.zero_le _, Nat.zero_le _⟩ [] (by decide) rfl rfl rfl rfl (Nat.le_of_ble_eq_true rfl) dX0_awaitedAfter_154 ?_
    exact g_iretE cx dX0_awaitedAfter_157 (rfl) (by first | rfl | exact (if_pos (by assumption)).symm | exact (if_neg (by assumption)).symm)
  ·
    refine g_tableOut (x := nI 9) (tgt := 158) cx dX0_awaitedAfter_1 (by decide +kernel) (by decide) ?_
    refine g_iload_n cx dX0_awaitedAfter_158 rfl ?_
    refine g_bipush cx dX0_awaitedAfter_159 kc_b59 ?_
    refine g_icmp_ne (tgt := 168) cx dX0_awaitedAfter_161 (by decide) (fun z6 => ?_) (fun z6 => ?_)
    ·
      have z6 := gn_ne (a := ch) (b := 59) z6
      refine g_iconst cx dX0_awaitedAfter_168 kc_im1 ?_
      exact g_iretE cx dX0_awaitedAfter_169 (rfl) (by first | rfl | exact (if_pos (by assumption)).symm | exact (if_neg (by assumption)).symm)
    ·
      have z6 := gn_eq (a := ch) (b := 59) (by omega) (by omega) z6
      refine g_iconst cx dX0_awaitedAfter_164 kc_i0 ?_
      refine g_goto (tgt := 169) cx dX0_awaitedAfter_165 (by decide) ?_
      exact g_iretE cx dX0_awaitedAfter_169 (rfl) (by first | rfl | exact (if_pos (by assumption)).symm | exact (if_neg (by assumption)).symm)
set_option maxRecDepth 100000 in
set_option maxHeartbeats 4000000 in
theorem c_X0_firstError (l : Launch) (E : gEnv) (h : Nat) (a : Nat) (T : Nat → Nat) (n : Nat) (hn : n ≤ 80) (hT : ∀ j, T j < 128) : gM l yX0_firstError wsX0_firstError ({ frames := 4, cells := 0, slots := 0, locals := 84 } : Room) E [.ref h] [(h, .inr (0, [.ref a, .int (nI n)])), (a, .inl (E.2.1 1, 80, .inl (fun j => nI (T j))))] [(h, .inr (0, [.ref a, .int (nI n)])), (a, .inl (E.2.1 1, 80, .inl (fun j => nI (T j))))] (some (.int (ferr T n 0 0))) := by
  refine gM.ofG (cc := cX0_firstError) (nL := 3) (ret := (some .int)) (own := RX0) [(0, .ref h)] (by decide) rfl rfl (Nat.le_of_ble_eq_true rfl) rfl rfl ?_
  intro pX eX sX mX bX tX cX A cx
  have hiX0 : ∀ w ∈ u_ws RX0 TX0 2, w ∈ wsX0_firstError := by decide +kernel
  refine g_iconst cx dX0_firstError_0 kc_i0 ?_
  refine g_istore_n (lv' := [(1, .int (nI 0)), (0, .ref h)]) cx dX0_firstError_1 rfl (by decide) rfl ?_
  refine g_iconst cx dX0_firstError_2 kc_i0 ?_
  refine g_istore_n (lv' := [(2, .int (nI 0)), (1, .int (nI 0)), (0, .ref h)]) cx dX0_firstError_3 rfl (by decide) rfl ?_
  have L4 : ∀ (n_ : Nat) (i : Nat) (s9 : Nat), n - i < n_ → i ≤ n → s9 < 10 → ferr T (n - i) s9 i = ferr T n 0 0 → gG pX l eX ({ frames := 4, cells := 0, slots := 0, locals := 84 } : Room) sX mX ([.ref h] : List Value).toArray bX tX cX 3 E A (MQ bX (gQ E [(h, .inr (0, [.ref a, .int (nI n)])), (a, .inl (E.2.1 1, 80, .inl (fun j => nI (T j))))] (some (.int (ferr T n 0 0))) A) ([.ref h] : List Value).toArray sX 0 0 A) 0 0 [(h, .inr (0, [.ref a, .int (nI n)])), (a, .inl (E.2.1 1, 80, .inl (fun j => nI (T j))))] [(0, .ref h), (1, .int (nI s9)), (2, .int (nI i))] [] 4 := by
    intro n_
    induction n_ with
    | zero => intro i s9 hm_; exact absurd hm_ (Nat.not_lt_zero _)
    | succ n_ ih_L4 =>
      intro i s9 hm_ hi hs he
      refine g_iload_n cx dX0_firstError_4 rfl ?_
      refine g_aload_n cx dX0_firstError_5 rfl ?_
      refine g_get (C := RX0) (T := TX0) (N := 2) (ci := 0) cx hiX0 0 1 (by decide) rfl (by decide +kernel) rfl rfl dX0_firstError_6 ?_
      refine g_icmp_ge (tgt := 36) cx dX0_firstError_9 (by decide) (fun z1 => ?_) (fun z1 => ?_)
      ·
        have z1 := gn_le (a := n) (b := i) (by first | omega | exact hT _ | exact Nat.lt_trans (hT _) (by decide)) (by first | omega | exact hT _ | exact Nat.lt_trans (hT _) (by decide)) z1
        refine g_iload_n cx dX0_firstError_36 rfl ?_
        refine g_bipush cx dX0_firstError_37 kc_b9 ?_
        refine g_icmp_eq (tgt := 54) cx dX0_firstError_39 (by decide) (fun z2 => ?_) (fun z2 => ?_)
        ·
          have z2 := gn_eq (a := s9) (b := 9) (by first | omega | exact hT _ | exact Nat.lt_trans (hT _) (by decide)) (by first | omega | exact hT _ | exact Nat.lt_trans (hT _) (by decide)) z2
          refine g_iconst cx dX0_firstError_54 kc_i1 ?_
          refine g_goto (tgt := 59) cx dX0_firstError_55 (by decide) ?_
          refine g_istore_n (lv' := [(2, .int (nI 1)), (0, .ref h), (1, .int (nI s9))]) cx dX0_firstError_59 rfl (by decide) rfl ?_
          refine g_iload_n cx dX0_firstError_60 rfl ?_
          refine g_if_eq (tgt := 68) cx dX0_firstError_61 (by decide) (fun z3 => absurd z3 (by decide +kernel)) (fun z3 => ?_)
          have z3 := gn_ne0 z3
          refine g_iconst cx dX0_firstError_64 kc_im1 ?_
          refine g_goto (tgt := 72) cx dX0_firstError_65 (by decide) ?_
          exact g_iretE cx dX0_firstError_72 (rfl) (by rw [← he, show n - i = 0 from by omega]; first | exact (if_pos (by omega)).symm | exact ((if_neg (by omega)).trans (congrArg nI (by omega))).symm)
        ·
          have z2 := gn_ne (a := s9) (b := 9) z2
          refine g_iload_n cx dX0_firstError_42 rfl ?_
          refine g_bipush cx dX0_firstError_43 kc_b6 ?_
          refine g_icmp_eq (tgt := 54) cx dX0_firstError_45 (by decide) (fun z4 => ?_) (fun z4 => ?_)
          ·
            have z4 := gn_eq (a := s9) (b := 6) (by first | omega | exact hT _ | exact Nat.lt_trans (hT _) (by decide)) (by first | omega | exact hT _ | exact Nat.lt_trans (hT _) (by decide)) z4
            refine g_iconst cx dX0_firstError_54 kc_i1 ?_
            refine g_goto (tgt := 59) cx dX0_firstError_55 (by decide) ?_
            refine g_istore_n (lv' := [(2, .int (nI 1)), (0, .ref h), (1, .int (nI s9))]) cx dX0_firstError_59 rfl (by decide) rfl ?_
            refine g_iload_n cx dX0_firstError_60 rfl ?_
            refine g_if_eq (tgt := 68) cx dX0_firstError_61 (by decide) (fun z5 => absurd z5 (by decide +kernel)) (fun z5 => ?_)
            have z5 := gn_ne0 z5
            refine g_iconst cx dX0_firstError_64 kc_im1 ?_
            refine g_goto (tgt := 72) cx dX0_firstError_65 (by decide) ?_
            exact g_iretE cx dX0_firstError_72 (rfl) (by rw [← he, show n - i = 0 from by omega]; first | exact (if_pos (by omega)).symm | exact ((if_neg (by omega)).trans (congrArg nI (by omega))).symm)
          ·
            have z4 := gn_ne (a := s9) (b := 6) z4
            refine g_iload_n cx dX0_firstError_48 rfl ?_
            refine g_bipush cx dX0_firstError_49 kc_b7 ?_
            refine g_icmp_ne (tgt := 58) cx dX0_firstError_51 (by decide) (fun z6 => ?_) (fun z6 => ?_)
            ·
              have z6 := gn_ne (a := s9) (b := 7) z6
              refine g_iconst cx dX0_firstError_58 kc_i0 ?_
              refine g_istore_n (lv' := [(2, .int (nI 0)), (0, .ref h), (1, .int (nI s9))]) cx dX0_firstError_59 rfl (by decide) rfl ?_
              refine g_iload_n cx dX0_firstError_60 rfl ?_
              refine g_if_eq (tgt := 68) cx dX0_firstError_61 (by decide) (fun z7 => ?_) (fun z7 => absurd z7 (by decide +kernel))
              have z7 := gn_eq0 (by omega) z7
              refine g_aload_n cx dX0_firstError_68 rfl ?_
              refine g_get (C := RX0) (T := TX0) (N := 2) (ci := 0) cx hiX0 0 1 (by decide) rfl (by decide +kernel) rfl rfl dX0_firstError_69 ?_
              exact g_iretE cx dX0_firstError_72 (rfl) (by rw [← he, show n - i = 0 from by omega]; first | exact (if_pos (by omega)).symm | exact ((if_neg (by omega)).trans (congrArg nI (by omega))).symm)
            ·
              have z6 := gn_eq (a := s9) (b := 7) (by first | omega | exact hT _ | exact Nat.lt_trans (hT _) (by decide)) (by first | omega | exact hT _ | exact Nat.lt_trans (hT _) (by decide)) z6
              refine g_iconst cx dX0_firstError_54 kc_i1 ?_
              refine g_goto (tgt := 59) cx dX0_firstError_55 (by decide) ?_
              refine g_istore_n (lv' := [(2, .int (nI 1)), (0, .ref h), (1, .int (nI s9))]) cx dX0_firstError_59 rfl (by decide) rfl ?_
              refine g_iload_n cx dX0_firstError_60 rfl ?_
              refine g_if_eq (tgt := 68) cx dX0_firstError_61 (by decide) (fun z8 => absurd z8 (by decide +kernel)) (fun z8 => ?_)
              have z8 := gn_ne0 z8
              refine g_iconst cx dX0_firstError_64 kc_im1 ?_
              refine g_goto (tgt := 72) cx dX0_firstError_65 (by decide) ?_
              exact g_iretE cx dX0_firstError_72 (rfl) (by rw [← he, show n - i = 0 from by omega]; first | exact (if_pos (by omega)).symm | exact ((if_neg (by omega)).trans (congrArg nI (by omega))).symm)
      ·
        have z1 := gn_nle (a := n) (b := i) (by first | omega | exact hT _ | exact Nat.lt_trans (hT _) (by decide)) (by first | omega | exact hT _ | exact Nat.lt_trans (hT _) (by decide)) z1
        refine g_iload_n cx dX0_firstError_12 rfl ?_
        refine g_aload_n cx dX0_firstError_13 rfl ?_
        refine g_get (C := RX0) (T := TX0) (N := 2) (ci := 0) cx hiX0 0 0 (by decide) rfl (by decide +kernel) rfl rfl dX0_firstError_14 ?_
        refine g_iload_n cx dX0_firstError_17 rfl ?_
        refine g_cald cx 1 rfl rfl (vp_in_nI (by omega) (by omega)) (by rw [nI_clamp (by omega)]) dX0_firstError_18 ?_
        refine g_callS (ws' := [(h, .inr (0, [.ref a, .int (nI n)])), (a, .inl (E.2.1 1, 80, .inl (fun j => nI (T j))))]) (As := [.int (nI s9), .int (nI (T i))]) (rest := []) (n := 2) cx (c_X0_awaitedAfter l E s9 (T i) (by first | omega | exact hT _ | exact Nat.lt_trans (hT _) (by decide)) (by first | omega | exact hT _ | exact Nat.lt_trans (hT _) (by decide))) gX0_firstError_X0_awaitedAfter rfl (by decide +kernel) rfl rfl ⟨Nat.le_of_ble_eq_true rfl, Nat.le_of_ble_eq_true rfl⟩ ⟨Nat.zero_le _, Nat.zero_le _⟩ [] (by decide) rfl rfl rfl rfl (Nat.le_of_ble_eq_true rfl) dX0_firstError_19 ?_
        refine g_istore_n (lv' := [(1, .int (awI s9 (T i))), (0, .ref h), (2, .int (nI i))]) cx dX0_firstError_22 rfl (by decide) rfl ?_
        refine g_iload_n cx dX0_firstError_23 rfl ?_
        refine g_iconst cx dX0_firstError_24 kc_im1 ?_
        refine g_icmp_ne (tgt := 30) cx dX0_firstError_25 (by decide) (fun z9 => ?_) (fun z9 => ?_)
        ·
          have ht := awI_nat (a := s9) (ch := T i) (by omega) (hT _) (by assumption)
          rw [ht.2]
          refine g_iinc (lv' := [(2, .int (nI (i + 1))), (1, .int (nI (aw s9 (T i)))), (0, .ref h)]) (k := 2) cx dX0_firstError_30 rfl (gn_inc1 i) (by decide) rfl ?_
          refine g_goto (tgt := 4) cx dX0_firstError_33 (by decide) ?_
          refine g_lv [2, 1, 0] rfl ?_
          exact ih_L4 (i + 1) (aw s9 (T i)) (by omega) (by omega) ht.1 (by rw [← he, show n - i = n - (i + 1) + 1 from by omega, ferr_n (by assumption)])
        ·
          refine g_iload_n cx dX0_firstError_28 rfl ?_
          exact g_iretE cx dX0_firstError_29 (rfl) (by rw [← he, show n - i = n - (i + 1) + 1 from by omega, ferr_t (by assumption)])
  refine g_lv [2, 1, 0] rfl ?_
  exact L4 (n - 0 + 1) 0 0 (by omega) (by omega) (by omega) rfl
set_option maxRecDepth 100000 in
set_option maxHeartbeats 4000000 in
theorem c_X0_countCharacters (l : Launch) (E : gEnv) (pk : Int64)  : gM l yX0_countCharacters wsX0_countCharacters ({ frames := 0, cells := 0, slots := 0, locals := 0 } : Room) E [.long pk] [] [] (some (.int (ccn 8 0 pk))) := by
  refine gM.ofG (cc := cX0_countCharacters) (nL := 7) (ret := (some .int)) (own := RX0) [(0, .long pk)] (by decide) rfl rfl (Nat.le_of_ble_eq_true rfl) rfl rfl ?_
  intro pX eX sX mX bX tX cX A cx
  refine g_lload_n cx dX0_countCharacters_0 rfl ?_
  refine g_lstore_n (lv' := [(2, .long pk), (0, .long pk)]) cx dX0_countCharacters_1 rfl (by decide) rfl ?_
  refine g_iconst cx dX0_countCharacters_2 kc_i0 ?_
  refine g_istore (lv' := [(4, .int (nI 0)), (2, .long pk), (0, .long pk)]) cx dX0_countCharacters_3 (by decide) rfl ?_
  have L5 : ∀ (n_ : Nat) (k : Nat) (r : Int64), 8 - k < n_ → k ≤ 8 → ccn (8 - k) k r = ccn 8 0 pk → gG pX l eX ({ frames := 0, cells := 0, slots := 0, locals := 0 } : Room) sX mX ([.long pk] : List Value).toArray bX tX cX 7 E A (MQ bX (gQ E [] (some (.int (ccn 8 0 pk))) A) ([.long pk] : List Value).toArray sX 0 0 A) 0 0 [] [(0, .long pk), (2, .long r), (4, .int (nI k))] [] 5 := by
    intro n_
    induction n_ with
    | zero => intro k r hm_; exact absurd hm_ (Nat.not_lt_zero _)
    | succ n_ ih_L5 =>
      intro k r hm_ hk he
      refine g_iload cx dX0_countCharacters_5 rfl ?_
      refine g_bipush cx dX0_countCharacters_7 kc_b8 ?_
      refine g_icmp_ge (tgt := 60) cx dX0_countCharacters_9 (by decide) (fun z1 => ?_) (fun z1 => ?_)
      ·
        have z1 := gn_le (a := 8) (b := k) (by omega) (by omega) z1
        refine g_iload cx dX0_countCharacters_60 rfl ?_
        refine g_if_eq (tgt := 71) cx dX0_countCharacters_62 (by decide) (fun z2 => ?_) (fun z2 => ?_)
        ·
          have z2 := gn_eq0 (by omega) z2
          refine g_iconst cx dX0_countCharacters_71 kc_im1 ?_
          refine g_goto (tgt := 77) cx dX0_countCharacters_72 (by decide) ?_
          exact g_iretE cx dX0_countCharacters_77 (rfl) (by rw [← he]; (first | rw [ccn_0 (by assumption)] | rw [show 8 - k = 0 from by omega]); (try unfold ccn); unfold ccf; first | exact (if_pos (Or.inl (by assumption))).symm | exact (if_pos (Or.inr (by assumption))).symm | exact (if_neg (by rintro (z | z); exact absurd z (by assumption); exact absurd (by assumption) z)).symm)
        ·
          have z2 := gn_ne0 z2
          refine g_lload_n cx dX0_countCharacters_65 rfl ?_
          refine g_lconst (v := 0) cx dX0_countCharacters_66 rfl ?_
          refine g_lcmp cx dX0_countCharacters_67 ?_
          refine g_if_eq (tgt := 75) cx dX0_countCharacters_68 (by decide) (fun z3 => ?_) (fun z3 => ?_)
          ·
            have z3 := lg_cmp_0.mp z3
            refine g_iload cx dX0_countCharacters_75 rfl ?_
            exact g_iretE cx dX0_countCharacters_77 (rfl) (by rw [← he]; (first | rw [ccn_0 (by assumption)] | rw [show 8 - k = 0 from by omega]); (try unfold ccn); unfold ccf; first | exact (if_pos (Or.inl (by assumption))).symm | exact (if_pos (Or.inr (by assumption))).symm | exact (if_neg (by rintro (z | z); exact absurd z (by assumption); exact absurd (by assumption) z)).symm)
          ·
            have z3 := lg_ne z3
            refine g_iconst cx dX0_countCharacters_71 kc_im1 ?_
            refine g_goto (tgt := 77) cx dX0_countCharacters_72 (by decide) ?_
            exact g_iretE cx dX0_countCharacters_77 (rfl) (by rw [← he]; (first | rw [ccn_0 (by assumption)] | rw [show 8 - k = 0 from by omega]); (try unfold ccn); unfold ccf; first | exact (if_pos (Or.inl (by assumption))).symm | exact (if_pos (Or.inr (by assumption))).symm | exact (if_neg (by rintro (z | z); exact absurd z (by assumption); exact absurd (by assumption) z)).symm)
      ·
        have z1 := gn_nle (a := 8) (b := k) (by omega) (by omega) z1
        refine g_lload_n cx dX0_countCharacters_12 rfl ?_
        refine g_ldc2 (v := 255) cx dX0_countCharacters_13 (by decide +kernel) ?_
        refine g_land cx dX0_countCharacters_16 ?_
        refine g_lconst (v := 0) cx dX0_countCharacters_17 rfl ?_
        refine g_lcmp cx dX0_countCharacters_18 ?_
        refine g_if_eq (tgt := 60) cx dX0_countCharacters_19 (by decide) (fun z4 => ?_) (fun z4 => ?_)
        ·
          have z4 := lg_cmp_0.mp z4
          refine g_iload cx dX0_countCharacters_60 rfl ?_
          refine g_if_eq (tgt := 71) cx dX0_countCharacters_62 (by decide) (fun z5 => ?_) (fun z5 => ?_)
          ·
            have z5 := gn_eq0 (by omega) z5
            refine g_iconst cx dX0_countCharacters_71 kc_im1 ?_
            refine g_goto (tgt := 77) cx dX0_countCharacters_72 (by decide) ?_
            exact g_iretE cx dX0_countCharacters_77 (rfl) (by rw [← he]; (first | rw [ccn_0 (by assumption)] | rw [show 8 - k = 0 from by omega]); (try unfold ccn); unfold ccf; first | exact (if_pos (Or.inl (by assumption))).symm | exact (if_pos (Or.inr (by assumption))).symm | exact (if_neg (by rintro (z | z); exact absurd z (by assumption); exact absurd (by assumption) z)).symm)
          ·
            have z5 := gn_ne0 z5
            refine g_lload_n cx dX0_countCharacters_65 rfl ?_
            refine g_lconst (v := 0) cx dX0_countCharacters_66 rfl ?_
            refine g_lcmp cx dX0_countCharacters_67 ?_
            refine g_if_eq (tgt := 75) cx dX0_countCharacters_68 (by decide) (fun z6 => ?_) (fun z6 => ?_)
            ·
              have z6 := lg_cmp_0.mp z6
              refine g_iload cx dX0_countCharacters_75 rfl ?_
              exact g_iretE cx dX0_countCharacters_77 (rfl) (by rw [← he]; (first | rw [ccn_0 (by assumption)] | rw [show 8 - k = 0 from by omega]); (try unfold ccn); unfold ccf; first | exact (if_pos (Or.inl (by assumption))).symm | exact (if_pos (Or.inr (by assumption))).symm | exact (if_neg (by rintro (z | z); exact absurd z (by assumption); exact absurd (by assumption) z)).symm)
            ·
              have z6 := lg_ne z6
              refine g_iconst cx dX0_countCharacters_71 kc_im1 ?_
              refine g_goto (tgt := 77) cx dX0_countCharacters_72 (by decide) ?_
              exact g_iretE cx dX0_countCharacters_77 (rfl) (by rw [← he]; (first | rw [ccn_0 (by assumption)] | rw [show 8 - k = 0 from by omega]); (try unfold ccn); unfold ccf; first | exact (if_pos (Or.inl (by assumption))).symm | exact (if_pos (Or.inr (by assumption))).symm | exact (if_neg (by rintro (z | z); exact absurd z (by assumption); exact absurd (by assumption) z)).symm)
        ·
          have z4 := lg_ne z4
          refine g_lload_n cx dX0_countCharacters_22 rfl ?_
          refine g_ldc2 (v := 255) cx dX0_countCharacters_23 (by decide +kernel) ?_
          refine g_land cx dX0_countCharacters_26 ?_
          refine g_lstore (lv' := [(5, .long (r &&& 255)), (0, .long pk), (2, .long r), (4, .int (nI k))]) cx dX0_countCharacters_27 (by decide) rfl ?_
          refine g_lload cx dX0_countCharacters_29 rfl ?_
          refine g_ldc2 (v := 33) cx dX0_countCharacters_31 (by decide +kernel) ?_
          refine g_lcmp cx dX0_countCharacters_34 ?_
          refine g_if_lt (tgt := 47) cx dX0_countCharacters_35 (by decide) (fun z7 => ?_) (fun z7 => ?_)
          ·
            have z7 := lg_lt z7
            refine g_iconst cx dX0_countCharacters_47 kc_im1 ?_
            exact g_iretE cx dX0_countCharacters_48 (rfl) (by rw [← he]; exact (ccn_b (by assumption) (by first | exact Or.inl (by assumption) | exact Or.inr (by assumption)) (by omega)).symm)
          ·
            have z7 := lg_nlt z7
            refine g_lload cx dX0_countCharacters_38 rfl ?_
            refine g_ldc2 (v := 126) cx dX0_countCharacters_40 (by decide +kernel) ?_
            refine g_lcmp cx dX0_countCharacters_43 ?_
            refine g_if_le (tgt := 49) cx dX0_countCharacters_44 (by decide) (fun z8 => ?_) (fun z8 => ?_)
            ·
              have z8 := lg_le z8
              refine g_lload_n cx dX0_countCharacters_49 rfl ?_
              refine g_bipush cx dX0_countCharacters_50 kc_b8 ?_
              refine g_lushr cx dX0_countCharacters_52 rfl ?_
              refine g_lstore_n (lv' := [(2, .long ((r.toUInt64 >>> ((nI 8).toInt64.toUInt64 &&& Int64.toUInt64 63)).toInt64)), (5, .long (r &&& 255)), (0, .long pk), (4, .int (nI k))]) cx dX0_countCharacters_53 rfl (by decide) rfl ?_
              refine g_iinc (lv' := [(4, .int (nI (k + 1))), (2, .long ((r.toUInt64 >>> ((nI 8).toInt64.toUInt64 &&& Int64.toUInt64 63)).toInt64)), (5, .long (r &&& 255)), (0, .long pk)]) (k := 3) cx dX0_countCharacters_54 rfl (gn_inc1 k) (by decide) rfl ?_
              refine g_goto (tgt := 5) cx dX0_countCharacters_57 (by decide) ?_
              refine g_lv [3, 1, 0] rfl ?_
              exact ih_L5 (k + 1) ((r.toUInt64 >>> ((nI 8).toInt64.toUInt64 &&& Int64.toUInt64 63)).toInt64) (by omega) (by omega) ((ccn_s (by omega) (by assumption) (by assumption) (by assumption)).symm.trans he)
            ·
              have z8 := lg_nle z8
              refine g_iconst cx dX0_countCharacters_47 kc_im1 ?_
              exact g_iretE cx dX0_countCharacters_48 (rfl) (by rw [← he]; exact (ccn_b (by assumption) (by first | exact Or.inl (by assumption) | exact Or.inr (by assumption)) (by omega)).symm)
  refine g_lv [2, 1, 0] rfl ?_
  exact L5 (8 - 0 + 1) 0 pk (by omega) (by omega) rfl
set_option maxRecDepth 100000 in
set_option maxHeartbeats 4000000 in
theorem c_X0_append (l : Launch) (E : gEnv) (h : Nat) (a : Nat) (T : Nat → Nat) (n : Nat) (pk : Int64) (k : Nat) (hn : n ≤ 80) (hT : ∀ j, T j < 128) (hk : 1 ≤ k) (hk8 : k ≤ 8) (hnk : n + k ≤ 80) : gM l yX0_append wsX0_append ({ frames := 0, cells := 0, slots := 0, locals := 0 } : Room) E [.ref h, .long pk, .int (nI k)] [(h, .inr (0, [.ref a, .int (nI n)])), (a, .inl (E.2.1 1, 80, .inl (fun j => nI (T j))))] [(h, .inr (0, [.ref a, .int (nI (n + k))])), (a, .inl (E.2.1 1, 80, .inl (fun j => nI (apT T n pk k 0 j))))] none := by
  refine gM.ofG (cc := cX0_append) (nL := 5) (ret := none) (own := RX0) [(0, .ref h), (1, .long pk), (3, .int (nI k))] (by decide) rfl rfl (Nat.le_of_ble_eq_true rfl) rfl rfl ?_
  intro pX eX sX mX bX tX cX A cx
  have hiX0 : ∀ w ∈ u_ws RX0 TX0 2, w ∈ wsX0_append := by decide +kernel
  refine g_iload_n cx dX0_append_0 rfl ?_
  refine g_iconst cx dX0_append_1 kc_i1 ?_
  refine g_isub cx dX0_append_2 ?_
  refine g_istore (lv' := [(4, .int ((nI k) - (nI 1))), (0, .ref h), (1, .long pk), (3, .int (nI k))]) cx dX0_append_3 (by decide) rfl ?_
  have L5 : ∀ (n_ : Nat) (t : Nat), t < n_ → t ≤ k → gG pX l eX ({ frames := 0, cells := 0, slots := 0, locals := 0 } : Room) sX mX ([.ref h, .long pk, .int (nI k)] : List Value).toArray bX tX cX 5 E A (MQ bX (gQ E [(h, .inr (0, [.ref a, .int (nI (n + k))])), (a, .inl (E.2.1 1, 80, .inl (fun j => nI (apT T n pk k 0 j))))] none A) ([.ref h, .long pk, .int (nI k)] : List Value).toArray sX 0 0 A) 0 0 [(h, .inr (0, [.ref a, .int (nI (n + (k - t)))])), (a, .inl (E.2.1 1, 80, .inl (fun j => nI (apT T n pk k t j))))] [(0, .ref h), (1, .long pk), (3, .int (nI k)), (4, .int (nI t - 1))] [] 5 := by
    intro n_
    induction n_ with
    | zero => intro t hm_; exact absurd hm_ (Nat.not_lt_zero _)
    | succ n_ ih_L5 =>
      intro t hm_ ht
      refine g_iload cx dX0_append_5 rfl ?_
      refine g_if_lt (tgt := 57) cx dX0_append_7 (by decide) (fun z1 => ?_) (fun z1 => ?_)
      ·
        have z1 := gi0_lt z1
        exact g_vretE cx dX0_append_57 (by rw [show t = 0 from tz_0 (by omega) (by assumption)]; rfl)
      ·
        have z1 := gi0_nlt z1
        obtain ⟨t9, rfl⟩ : ∃ z, t = z + 1 := tz_s (by omega) (by assumption)
        rw [nI_pred t9]
        refine g_aload_n cx dX0_append_10 rfl ?_
        refine g_get (C := RX0) (T := TX0) (N := 2) (ci := 0) cx hiX0 0 1 (by decide) rfl (by decide +kernel) rfl rfl dX0_append_11 ?_
        refine g_bipush cx dX0_append_14 kc_b80 ?_
        refine g_icmp_ge (tgt := 57) cx dX0_append_16 (by decide) (fun z2 => absurd (gn_le (a := 80) (b := n + (k - (t9 + 1))) (by omega) (by omega) z2) (by omega)) (fun z2 => ?_)
        have z2 := gn_nle (a := 80) (b := n + (k - (t9 + 1))) (by omega) (by omega) z2
        refine g_aload_n cx dX0_append_19 rfl ?_
        refine g_get (C := RX0) (T := TX0) (N := 2) (ci := 0) cx hiX0 0 0 (by decide) rfl (by decide +kernel) rfl rfl dX0_append_20 ?_
        refine g_aload_n cx dX0_append_23 rfl ?_
        refine g_get (C := RX0) (T := TX0) (N := 2) (ci := 0) cx hiX0 0 1 (by decide) rfl (by decide +kernel) rfl rfl dX0_append_24 ?_
        refine g_lload_n cx dX0_append_27 rfl ?_
        refine g_bipush cx dX0_append_28 kc_b8 ?_
        refine g_iload cx dX0_append_30 rfl ?_
        refine g_imul cx dX0_append_32 ?_
        refine g_top (pk_mul 8 t9) ?_
        refine g_lushr cx dX0_append_33 rfl ?_
        refine g_ldc2 (v := 255) cx dX0_append_34 (by decide +kernel) ?_
        refine g_land cx dX0_append_37 ?_
        refine g_l2i cx dX0_append_38 rfl ?_
        refine g_i2c cx dX0_append_39 rfl ?_
        refine g_cast (ws' := [(h, .inr (0, [.ref a, .int (nI (n + (k - (t9 + 1))))])), (a, .inl (E.2.1 1, 80, .inl (fun j => nI (apT T n pk k t9 j))))]) cx 1 rfl rfl (vp_in_nI (by omega) (by omega)) (by rw [nI_clamp (by omega), cast_byte, apT_s _ _ _ _ _ (by omega)]; rfl) dX0_append_40 ?_
        refine g_aload_n cx dX0_append_41 rfl ?_
        refine g_dup cx dX0_append_42 rfl ?_
        refine g_get (C := RX0) (T := TX0) (N := 2) (ci := 0) cx hiX0 0 1 (by decide) rfl (by decide +kernel) rfl rfl dX0_append_43 ?_
        refine g_iconst cx dX0_append_46 kc_i1 ?_
        refine g_iadd cx dX0_append_47 ?_
        refine g_top (nI_add (n + (k - (t9 + 1))) 1) ?_
        refine g_put (ws' := [(h, .inr (0, [.ref a, .int (nI ((n + (k - (t9 + 1))) + 1))])), (a, .inl (E.2.1 1, 80, .inl (fun j => nI (apT T n pk k t9 j))))]) (C := RX0) (T := TX0) (N := 2) (ci := 0) cx hiX0 tyX0 tyX0_ok nmX0 0 1 (by decide) rfl (by decide +kernel) rfl rfl rfl rfl rfl (Nat.le_of_ble_eq_true rfl) rfl dX0_append_48 ?_
        refine g_iinc (lv' := [(4, .int (nI t9 - 1)), (0, .ref h), (1, .long pk), (3, .int (nI k))]) (k := 3) cx dX0_append_51 rfl (dec1 _) (by decide) rfl ?_
        refine g_goto (tgt := 5) cx dX0_append_54 (by decide) ?_
        rw [show n + (k - (t9 + 1)) + 1 = n + (k - t9) from by omega]
        refine g_lv [1, 2, 3, 0] rfl ?_
        exact ih_L5 t9 (by omega) (by omega)
  refine g_ws (ws' := [(h, .inr (0, [.ref a, .int (nI (n + (k - k)))])), (a, .inl (E.2.1 1, 80, .inl (fun j => nI (apT T n pk k k j))))]) (by rw [apT_0, Nat.sub_self]; rfl) ?_
  refine g_lv [1, 2, 3, 0] rfl ?_
  exact L5 (k + 1) k (by omega) (by omega)
