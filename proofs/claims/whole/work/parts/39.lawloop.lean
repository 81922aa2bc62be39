/-! the law's loop -/
theorem lw_le {L i : Nat} (hL : L ≤ 2560) (hi : i ≤ 2560) : (nI L - nI 5 < nI i) ↔ L < i + 5 := by
  rw [Int32.lt_iff_toInt_lt, pk_sub_toInt (by omega) (by omega), nI_toInt (by omega)]
  omega
theorem and31 (x : Int32) : ∃ v, v < 32 ∧ x &&& nI 31 = nI v := by
  refine ⟨x.toBitVec.toNat % 32, Nat.mod_lt _ (by decide), ?_⟩
  apply Int32.toBitVec_inj.mp
  apply BitVec.eq_of_toNat_eq
  rw [Int32.toBitVec_and, BitVec.toNat_and, pk_tn (by omega), pk_tn (by omega), show 31 = 2 ^ 5 - 1 from rfl, Nat.and_two_pow_sub_one_eq_mod]
set_option maxRecDepth 100000 in
set_option maxHeartbeats 4000000 in
theorem law_loop {p : Program} {l : Launch} {e : Env} {s : State} {m : MethodId} {args : Array Value} {below : List Frame} {meth : Method} {c : Code} {E : gEnv} {A : Nat → Prop} {Q : State → Prop} (hl0 : l.stackTraces = false) (cx : gC p s m args meth c cL_law 9 RL (some .boolean) wsL_law E A) {b L : Nat} {xs : Nat → Int32} (hX : va_X b L xs s s.heap) (hbl : b < s.heap.size) (hbA : ¬ A b) {hx hp ap hg gv ge hh st hsl hsv htx hc h an ap_ asl ah ax atd av ae ao : Nat} {q a sq sa : Nat → Nat} (hL9 : L ≤ 2560) (Kend : ∀ (cells slots : Nat) (ws : va_W) (lv : List (Nat × Value)), cells ≤ room_1.cells → slots ≤ room_1.slots → gG p l e room_1 s m args below meth c 9 E A Q cells slots ws lv [] 1498) : ∀ (k_ i cells slots : Nat) (nw : Nat → Int32) (ps : Nat → Int32) (sl : Nat → Int32) (hs2 : Nat → Int32) (td : Nat → Int32) (va : Nat → Int32) (er : Nat → Int32) (th : Int32) (go : Int32) (at_ : Nat) (tlN : Nat) (T : Nat → Nat) (tn : Nat) (n : Nat) (o : Nat) (f : Nat → Int32) (r : Int32) (t : Int32) (w : Bool) (F : Nat → Nat → Int32) (Rr : Nat → Int32) (Tt : Nat → Int32) (Ww : Nat → Bool) (SF : Nat → Nat → Int32) (SR : Nat → Int32) (ST : Nat → Int32) (SW : Nat → Bool) (sv : Nat → Bool) (fv : Nat → Int32) (fe : Nat → Int32) (mk : Int64) (lo : Int32) (ot : Nat → Int64), L + 5 - i < k_ → i ≤ L → cells + (L + 5 - i) ≤ room_1.cells → slots + 6 * (L + 5 - i) ≤ room_1.slots → Rel nw ps sl hs2 T tn n o f r t w F Rr Tt Ww SF SR ST SW sv → gG p l e room_1 s m args below meth c 9 E A Q (cells) (slots) [(hx, .inr (4, [.ref hp, .ref hg, .ref hh, .ref hsl, .ref hsv, .ref htx])), (hp, .inr (3, [.ref ap, .int r, .int t, .int (gB w)])), (ap, .inl (E.2.1 0, 64, .inl f)), (hg, .inr (2, [.ref gv, .ref ge, .long mk, .int lo])), (gv, .inl (E.2.1 0, 64, .inl fv)), (ge, .inl (E.2.1 0, 64, .inl fe)), (hh, .inr (1, [.ref st, .int (nI n)])), (st, .inl (E.2.1 3, 6, .inr (.inr (.inr (.inr (fun k => some (q ((k + o) % 6)))))))), (q 0, .inr (3, [.ref (a 0), .int (Rr 0), .int (Tt 0), .int (gB (Ww 0))])), (a 0, .inl (E.2.1 0, 64, .inl (F 0))), (q 1, .inr (3, [.ref (a 1), .int (Rr 1), .int (Tt 1), .int (gB (Ww 1))])), (a 1, .inl (E.2.1 0, 64, .inl (F 1))), (q 2, .inr (3, [.ref (a 2), .int (Rr 2), .int (Tt 2), .int (gB (Ww 2))])), (a 2, .inl (E.2.1 0, 64, .inl (F 2))), (q 3, .inr (3, [.ref (a 3), .int (Rr 3), .int (Tt 3), .int (gB (Ww 3))])), (a 3, .inl (E.2.1 0, 64, .inl (F 3))), (q 4, .inr (3, [.ref (a 4), .int (Rr 4), .int (Tt 4), .int (gB (Ww 4))])), (a 4, .inl (E.2.1 0, 64, .inl (F 4))), (q 5, .inr (3, [.ref (a 5), .int (Rr 5), .int (Tt 5), .int (gB (Ww 5))])), (a 5, .inl (E.2.1 0, 64, .inl (F 5))), (hsl, .inl (E.2.1 3, 2, .inr (.inr (.inr (.inr (fun k => some (sq k))))))), (hsv, .inl (E.2.1 2, 2, .inl (fun j => gB (sv j)))), (sq 0, .inr (3, [.ref (sa 0), .int (SR 0), .int (ST 0), .int (gB (SW 0))])), (sa 0, .inl (E.2.1 0, 64, .inl (SF 0))), (sq 1, .inr (3, [.ref (sa 1), .int (SR 1), .int (ST 1), .int (gB (SW 1))])), (sa 1, .inl (E.2.1 0, 64, .inl (SF 1))), (htx, .inr (0, [.ref hc, .int (nI tn)])), (hc, .inl (E.2.1 1, 80, .inl (fun j => nI (T j)))), (h, .inr (5, [.ref an, .ref ap_, .ref asl, .ref ah, .int (nI n), .ref ax, .int (nI tn), .int th, .int (nI at_), .ref atd, .int (nI tlN), .ref av, .ref ae, .int go])), (an, .inl (E.2.1 0, 67, .inl nw)), (ap_, .inl (E.2.1 0, 402, .inl ps)), (asl, .inl (E.2.1 0, 134, .inl sl)), (ah, .inl (E.2.1 0, 2, .inl hs2)), (ax, .inl (E.2.1 0, 80, .inl (fun j => nI (T j)))), (atd, .inl (E.2.1 0, 123, .inl td)), (av, .inl (E.2.1 0, 64, .inl va)), (ae, .inl (E.2.1 0, 64, .inl er)), (ao, .inl (E.2.1 4, 1, .inr (.inl ot)))] [(4, .int (nI i)), (3, .ref ao), (2, .ref h), (1, .ref hx), (0, .ref b)] [] 23 := by
  intro k_
  induction k_ with
  | zero => intro i cells slots nw ps sl hs2 td va er th go at_ tlN T tn n o f r t w F Rr Tt Ww SF SR ST SW sv fv fe mk lo ot hk; exact absurd hk (Nat.not_lt_zero _)
  | succ k_ ih =>
    intro i cells slots nw ps sl hs2 td va er th go at_ tlN T tn n o f r t w F Rr Tt Ww SF SR ST SW sv fv fe mk lo ot hk hiL hc1 hc2 hR
    refine g_iload cx dL_law_23 rfl ?_
    refine g_aload_n cx dL_law_25 rfl ?_
    refine g_slen cx hX hbl hbA dL_law_26 ?_
    refine g_iconst cx dL_law_27 kc_i5 ?_
    refine g_isub cx dL_law_28 ?_
    refine g_icmp_gt (tgt := 1498) cx dL_law_29 (by decide) (fun z => Kend _ _ _ _ (by omega) (by omega)) (fun z => ?_)
    have hi5 : i + 5 ≤ L := Nat.le_of_not_lt (fun y => z ((lw_le hL9 (by omega)).mpr y))
    have K : ∀ (nw : Nat → Int32) (ps : Nat → Int32) (sl : Nat → Int32) (hs2 : Nat → Int32) (td : Nat → Int32) (va : Nat → Int32) (er : Nat → Int32) (th : Int32) (go : Int32) (at_ : Nat) (tlN : Nat) (T : Nat → Nat) (tn : Nat) (n : Nat) (o : Nat) (f : Nat → Int32) (r : Int32) (t : Int32) (w : Bool) (F : Nat → Nat → Int32) (Rr : Nat → Int32) (Tt : Nat → Int32) (Ww : Nat → Bool) (SF : Nat → Nat → Int32) (SR : Nat → Int32) (ST : Nat → Int32) (SW : Nat → Bool) (sv : Nat → Bool) (fv : Nat → Int32) (fe : Nat → Int32) (mk : Int64) (lo : Int32) (ot : Nat → Int64), Rel nw ps sl hs2 T tn n o f r t w F Rr Tt Ww SF SR ST SW sv → gG p l e room_1 s m args below meth c 9 E A Q (cells + 1) (slots + 6) [(hx, .inr (4, [.ref hp, .ref hg, .ref hh, .ref hsl, .ref hsv, .ref htx])), (hp, .inr (3, [.ref ap, .int r, .int t, .int (gB w)])), (ap, .inl (E.2.1 0, 64, .inl f)), (hg, .inr (2, [.ref gv, .ref ge, .long mk, .int lo])), (gv, .inl (E.2.1 0, 64, .inl fv)), (ge, .inl (E.2.1 0, 64, .inl fe)), (hh, .inr (1, [.ref st, .int (nI n)])), (st, .inl (E.2.1 3, 6, .inr (.inr (.inr (.inr (fun k => some (q ((k + o) % 6)))))))), (q 0, .inr (3, [.ref (a 0), .int (Rr 0), .int (Tt 0), .int (gB (Ww 0))])), (a 0, .inl (E.2.1 0, 64, .inl (F 0))), (q 1, .inr (3, [.ref (a 1), .int (Rr 1), .int (Tt 1), .int (gB (Ww 1))])), (a 1, .inl (E.2.1 0, 64, .inl (F 1))), (q 2, .inr (3, [.ref (a 2), .int (Rr 2), .int (Tt 2), .int (gB (Ww 2))])), (a 2, .inl (E.2.1 0, 64, .inl (F 2))), (q 3, .inr (3, [.ref (a 3), .int (Rr 3), .int (Tt 3), .int (gB (Ww 3))])), (a 3, .inl (E.2.1 0, 64, .inl (F 3))), (q 4, .inr (3, [.ref (a 4), .int (Rr 4), .int (Tt 4), .int (gB (Ww 4))])), (a 4, .inl (E.2.1 0, 64, .inl (F 4))), (q 5, .inr (3, [.ref (a 5), .int (Rr 5), .int (Tt 5), .int (gB (Ww 5))])), (a 5, .inl (E.2.1 0, 64, .inl (F 5))), (hsl, .inl (E.2.1 3, 2, .inr (.inr (.inr (.inr (fun k => some (sq k))))))), (hsv, .inl (E.2.1 2, 2, .inl (fun j => gB (sv j)))), (sq 0, .inr (3, [.ref (sa 0), .int (SR 0), .int (ST 0), .int (gB (SW 0))])), (sa 0, .inl (E.2.1 0, 64, .inl (SF 0))), (sq 1, .inr (3, [.ref (sa 1), .int (SR 1), .int (ST 1), .int (gB (SW 1))])), (sa 1, .inl (E.2.1 0, 64, .inl (SF 1))), (htx, .inr (0, [.ref hc, .int (nI tn)])), (hc, .inl (E.2.1 1, 80, .inl (fun j => nI (T j)))), (h, .inr (5, [.ref an, .ref ap_, .ref asl, .ref ah, .int (nI n), .ref ax, .int (nI tn), .int th, .int (nI at_), .ref atd, .int (nI tlN), .ref av, .ref ae, .int go])), (an, .inl (E.2.1 0, 67, .inl nw)), (ap_, .inl (E.2.1 0, 402, .inl ps)), (asl, .inl (E.2.1 0, 134, .inl sl)), (ah, .inl (E.2.1 0, 2, .inl hs2)), (ax, .inl (E.2.1 0, 80, .inl (fun j => nI (T j)))), (atd, .inl (E.2.1 0, 123, .inl td)), (av, .inl (E.2.1 0, 64, .inl va)), (ae, .inl (E.2.1 0, 64, .inl er)), (ao, .inl (E.2.1 4, 1, .inr (.inl ot)))] [(4, .int (nI i)), (3, .ref ao), (2, .ref h), (1, .ref hx), (0, .ref b)] [] 1492 := by
      intro nw ps sl hs2 td va er th go at_ tlN T tn n o f r t w F Rr Tt Ww SF SR ST SW sv fv fe mk lo ot hR
      refine g_iinc (lv' := [(4, .int (nI (i + 5))), (3, .ref ao), (2, .ref h), (1, .ref hx), (0, .ref b)]) (k := 0) cx dL_law_1492 rfl (gn_inc5 i) (by decide) rfl ?_
      refine g_goto (tgt := 23) cx dL_law_1495 (by decide) ?_
      exact ih (i + 5) (cells + 1) (slots + 6) nw ps sl hs2 td va er th go at_ tlN T tn n o f r t w F Rr Tt Ww SF SR ST SW sv fv fe mk lo ot (by omega) (by omega) (by omega) (by omega) hR
    refine g_aload_n cx dL_law_32 rfl ?_
    refine g_iload cx dL_law_33 rfl ?_
    refine g_sld (v := xs i) cx hX hbl hbA (vp_in_nI (by omega) (by omega)) (congrArg xs (nI_clamp (by omega))) dL_law_35 ?_
    refine g_bipush cx dL_law_36 kc_b31 ?_
    refine g_iand cx dL_law_38 ?_
    obtain ⟨v9, hv9, hv8⟩ := and31 (xs i)
    rw [hv8]
    clear hv8 ih
    match v9, hv9 with
    | 0, _ =>
      refine g_tableIn (x := nI 0) (tgt := 180) cx dL_law_39 (by decide +kernel) (by decide +kernel) (show _ = some (141 : Int) from by decide +kernel) (by decide) ?_
      exact law_0_setGrey hl0 cx ⟨by omega, by omega⟩ ⟨by omega, by omega⟩ hX hbl hbA hi5 hL9 hR K
    | 1, _ =>
      refine g_tableIn (x := nI 1) (tgt := 248) cx dL_law_39 (by decide +kernel) (by decide +kernel) (show _ = some (209 : Int) from by decide +kernel) (by decide) ?_
      exact law_1_shadeRow hl0 cx ⟨by omega, by omega⟩ ⟨by omega, by omega⟩ hX hbl hbA hi5 hL9 hR K
    | 2, _ =>
      refine g_tableIn (x := nI 2) (tgt := 328) cx dL_law_39 (by decide +kernel) (by decide +kernel) (show _ = some (289 : Int) from by decide +kernel) (by decide) ?_
      exact law_2_fill hl0 cx ⟨by omega, by omega⟩ ⟨by omega, by omega⟩ hX hbl hbA hi5 hL9 hR K
    | 3, _ =>
      refine g_tableIn (x := nI 3) (tgt := 420) cx dL_law_39 (by decide +kernel) (by decide +kernel) (show _ = some (381 : Int) from by decide +kernel) (by decide) ?_
      exact law_3_invert hl0 cx ⟨by omega, by omega⟩ ⟨by omega, by omega⟩ hX hbl hbA hi5 hL9 hR K
    | 4, _ =>
      refine g_tableIn (x := nI 4) (tgt := 433) cx dL_law_39 (by decide +kernel) (by decide +kernel) (show _ = some (394 : Int) from by decide +kernel) (by decide) ?_
      exact law_4_thaw hl0 cx ⟨by omega, by omega⟩ ⟨by omega, by omega⟩ hX hbl hbA hi5 hL9 hR K
    | 5, _ =>
      refine g_tableIn (x := nI 5) (tgt := 489) cx dL_law_39 (by decide +kernel) (by decide +kernel) (show _ = some (450 : Int) from by decide +kernel) (by decide) ?_
      exact law_5_setRule hl0 cx ⟨by omega, by omega⟩ ⟨by omega, by omega⟩ hX hbl hbA hi5 hL9 hR K
    | 6, _ =>
      refine g_tableIn (x := nI 6) (tgt := 545) cx dL_law_39 (by decide +kernel) (by decide +kernel) (show _ = some (506 : Int) from by decide +kernel) (by decide) ?_
      exact law_6_setThreshold hl0 cx ⟨by omega, by omega⟩ ⟨by omega, by omega⟩ hX hbl hbA hi5 hL9 hR K
    | 7, _ =>
      refine g_tableIn (x := nI 7) (tgt := 601) cx dL_law_39 (by decide +kernel) (by decide +kernel) (show _ = some (562 : Int) from by decide +kernel) (by decide) ?_
      exact law_7_turnWinding hl0 cx ⟨by omega, by omega⟩ ⟨by omega, by omega⟩ hX hbl hbA hi5 hL9 hR K
    | 8, _ =>
      refine g_tableIn (x := nI 8) (tgt := 614) cx dL_law_39 (by decide +kernel) (by decide +kernel) (show _ = some (575 : Int) from by decide +kernel) (by decide) ?_
      exact law_8_greyOf hl0 cx ⟨by omega, by omega⟩ ⟨by omega, by omega⟩ hX hbl hbA hi5 hL9 hR K
    | 9, _ =>
      refine g_tableIn (x := nI 9) (tgt := 670) cx dL_law_39 (by decide +kernel) (by decide +kernel) (show _ = some (631 : Int) from by decide +kernel) (by decide) ?_
      exact law_9_greySum hl0 cx ⟨by omega, by omega⟩ ⟨by omega, by omega⟩ hX hbl hbA hi5 hL9 hR K
    | 10, _ =>
      refine g_tableIn (x := nI 10) (tgt := 683) cx dL_law_39 (by decide +kernel) (by decide +kernel) (show _ = some (644 : Int) from by decide +kernel) (by decide) ?_
      exact law_10_cellAt hl0 cx ⟨by omega, by omega⟩ ⟨by omega, by omega⟩ hX hbl hbA hi5 hL9 hR K
    | 11, _ =>
      refine g_tableIn (x := nI 11) (tgt := 739) cx dL_law_39 (by decide +kernel) (by decide +kernel) (show _ = some (700 : Int) from by decide +kernel) (by decide) ?_
      exact law_11_flakes hl0 cx ⟨by omega, by omega⟩ ⟨by omega, by omega⟩ hX hbl hbA hi5 hL9 hR K
    | 12, _ =>
      refine g_tableIn (x := nI 12) (tgt := 753) cx dL_law_39 (by decide +kernel) (by decide +kernel) (show _ = some (714 : Int) from by decide +kernel) (by decide) ?_
      exact law_12_flakesByCollecting hl0 cx ⟨by omega, by omega⟩ ⟨by omega, by omega⟩ hX hbl hbA hi5 hL9 hR K
    | 13, _ =>
      refine g_tableIn (x := nI 13) (tgt := 767) cx dL_law_39 (by decide +kernel) (by decide +kernel) (show _ = some (728 : Int) from by decide +kernel) (by decide) ?_
      exact law_13_flakeCount hl0 cx ⟨by omega, by omega⟩ ⟨by omega, by omega⟩ hX hbl hbA hi5 hL9 hR K
    | 14, _ =>
      refine g_tableIn (x := nI 14) (tgt := 780) cx dL_law_39 (by decide +kernel) (by decide +kernel) (show _ = some (741 : Int) from by decide +kernel) (by decide) ?_
      exact law_14_valueOf hl0 cx ⟨by omega, by omega⟩ ⟨by omega, by omega⟩ hX hbl hbA hi5 hL9 hR K
    | 15, _ =>
      refine g_tableIn (x := nI 15) (tgt := 836) cx dL_law_39 (by decide +kernel) (by decide +kernel) (show _ = some (797 : Int) from by decide +kernel) (by decide) ?_
      exact law_15_errorOf hl0 cx ⟨by omega, by omega⟩ ⟨by omega, by omega⟩ hX hbl hbA hi5 hL9 hR K
    | 16, _ =>
      refine g_tableIn (x := nI 16) (tgt := 892) cx dL_law_39 (by decide +kernel) (by decide +kernel) (show _ = some (853 : Int) from by decide +kernel) (by decide) ?_
      exact law_16_lost hl0 cx ⟨by omega, by omega⟩ ⟨by omega, by omega⟩ hX hbl hbA hi5 hL9 hR K
    | 17, _ =>
      refine g_tableIn (x := nI 17) (tgt := 905) cx dL_law_39 (by decide +kernel) (by decide +kernel) (show _ = some (866 : Int) from by decide +kernel) (by decide) ?_
      exact law_17_handedOn hl0 cx ⟨by omega, by omega⟩ ⟨by omega, by omega⟩ hX hbl hbA hi5 hL9 hR K
    | 18, _ =>
      refine g_tableIn (x := nI 18) (tgt := 973) cx dL_law_39 (by decide +kernel) (by decide +kernel) (show _ = some (934 : Int) from by decide +kernel) (by decide) ?_
      exact law_18_squareError hl0 cx ⟨by omega, by omega⟩ ⟨by omega, by omega⟩ hX hbl hbA hi5 hL9 hR K
    | 19, _ =>
      refine g_tableIn (x := nI 19) (tgt := 1029) cx dL_law_39 (by decide +kernel) (by decide +kernel) (show _ = some (990 : Int) from by decide +kernel) (by decide) ?_
      exact law_19_roughness hl0 cx ⟨by omega, by omega⟩ ⟨by omega, by omega⟩ hX hbl hbA hi5 hL9 hR K
    | 20, _ =>
      refine g_tableIn (x := nI 20) (tgt := 1042) cx dL_law_39 (by decide +kernel) (by decide +kernel) (show _ = some (1003 : Int) from by decide +kernel) (by decide) ?_
      exact law_20_smoothestRule hl0 cx ⟨by omega, by omega⟩ ⟨by omega, by omega⟩ hX hbl hbA hi5 hL9 hR K
    | 21, _ =>
      refine g_tableIn (x := nI 21) (tgt := 1055) cx dL_law_39 (by decide +kernel) (by decide +kernel) (show _ = some (1016 : Int) from by decide +kernel) (by decide) ?_
      exact law_21_thresholdFor hl0 cx ⟨by omega, by omega⟩ ⟨by omega, by omega⟩ hX hbl hbA hi5 hL9 hR K
    | 22, _ =>
      refine g_tableIn (x := nI 22) (tgt := 1111) cx dL_law_39 (by decide +kernel) (by decide +kernel) (show _ = some (1072 : Int) from by decide +kernel) (by decide) ?_
      exact law_22_excess hl0 cx ⟨by omega, by omega⟩ ⟨by omega, by omega⟩ hX hbl hbA hi5 hL9 hR K
    | 23, _ =>
      refine g_tableIn (x := nI 23) (tgt := 1152) cx dL_law_39 (by decide +kernel) (by decide +kernel) (show _ = some (1113 : Int) from by decide +kernel) (by decide) ?_
      exact law_23_appendText hl0 cx ⟨by omega, by omega⟩ ⟨by omega, by omega⟩ hX hbl hbA hi5 hL9 hR K
    | 24, _ =>
      refine g_tableIn (x := nI 24) (tgt := 1240) cx dL_law_39 (by decide +kernel) (by decide +kernel) (show _ = some (1201 : Int) from by decide +kernel) (by decide) ?_
      exact law_24_clearText hl0 cx ⟨by omega, by omega⟩ ⟨by omega, by omega⟩ hX hbl hbA hi5 hL9 hR K
    | 25, _ =>
      refine g_tableIn (x := nI 25) (tgt := 1253) cx dL_law_39 (by decide +kernel) (by decide +kernel) (show _ = some (1214 : Int) from by decide +kernel) (by decide) ?_
      exact law_25_textLength hl0 cx ⟨by omega, by omega⟩ ⟨by omega, by omega⟩ hX hbl hbA hi5 hL9 hR K
    | 26, _ =>
      refine g_tableIn (x := nI 26) (tgt := 1266) cx dL_law_39 (by decide +kernel) (by decide +kernel) (show _ = some (1227 : Int) from by decide +kernel) (by decide) ?_
      exact law_26_textError hl0 cx ⟨by omega, by omega⟩ ⟨by omega, by omega⟩ hX hbl hbA hi5 hL9 hR K
    | 27, _ =>
      refine g_tableIn (x := nI 27) (tgt := 1279) cx dL_law_39 (by decide +kernel) (by decide +kernel) (show _ = some (1240 : Int) from by decide +kernel) (by decide) ?_
      exact law_27_runText hl0 cx ⟨by omega, by omega⟩ ⟨by omega, by omega⟩ hX hbl hbA hi5 hL9 hR K
    | 28, _ =>
      refine g_tableIn (x := nI 28) (tgt := 1323) cx dL_law_39 (by decide +kernel) (by decide +kernel) (show _ = some (1284 : Int) from by decide +kernel) (by decide) ?_
      exact law_28_undo hl0 cx ⟨by omega, by omega⟩ ⟨by omega, by omega⟩ hX hbl hbA hi5 hL9 hR K
    | 29, _ =>
      refine g_tableIn (x := nI 29) (tgt := 1367) cx dL_law_39 (by decide +kernel) (by decide +kernel) (show _ = some (1328 : Int) from by decide +kernel) (by decide) ?_
      exact law_29_undoCount hl0 cx ⟨by omega, by omega⟩ ⟨by omega, by omega⟩ hX hbl hbA hi5 hL9 hR K
    | 30, _ =>
      refine g_tableIn (x := nI 30) (tgt := 1380) cx dL_law_39 (by decide +kernel) (by decide +kernel) (show _ = some (1341 : Int) from by decide +kernel) (by decide) ?_
      exact law_30_saveState hl0 cx ⟨by omega, by omega⟩ ⟨by omega, by omega⟩ hX hbl hbA hi5 hL9 hR K
    | 31, _ =>
      refine g_tableIn (x := nI 31) (tgt := 1436) cx dL_law_39 (by decide +kernel) (by decide +kernel) (show _ = some (1397 : Int) from by decide +kernel) (by decide) ?_
      exact law_31_loadState hl0 cx ⟨by omega, by omega⟩ ⟨by omega, by omega⟩ hX hbl hbA hi5 hL9 hR K
    | n9 + 32, h9 => exact absurd h9 (by omega)
