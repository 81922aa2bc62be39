set_option maxRecDepth 100000 in
set_option maxHeartbeats 4000000 in
theorem c_X4_requireIndex_t (l : Launch) (E : gEnv) (b : Bool) (hb : b = true) : gM l yX4_requireIndex wsX4_requireIndex ({ frames := 0, cells := 0, slots := 0, locals := 0 } : Room) E [.int (gB b)] [] [] none := by
  refine gM.ofG (cc := cX4_requireIndex) (nL := 1) (ret := none) (own := RX4) [(0, .int (gB b))] (by decide) rfl rfl (Nat.le_of_ble_eq_true rfl) rfl rfl ?_
  intro pX eX sX mX bX tX cX A cx
  refine g_iload_n cx dX4_requireIndex_0 rfl ?_
  refine g_if_ne (tgt := 14) cx dX4_requireIndex_1 (by decide) (fun z1 => ?_) (fun z1 => absurd ((hb : b = true).symm.trans (gB_eq0 z1)) (by decide))
  have z1 := gB_ne0 z1
  exact g_vretE cx dX4_requireIndex_14 (rfl)
set_option maxRecDepth 100000 in
set_option maxHeartbeats 4000000 in
theorem c_X4_requireIndex_f (l : Launch) (E : gEnv) (hl0 : l.stackTraces = false) (b : Bool) (hb : b = false) : gZ l yX4_requireIndex wsX4_requireIndex ({ frames := 6, cells := 1, slots := 6, locals := 100 } : Room) E [.int (gB b)] [] "java/lang/IndexOutOfBoundsException" := by
  refine gZ.ofG (cc := cX4_requireIndex) (nL := 1) (ret := none) (own := RX4) [(0, .int (gB b))] (by decide) rfl rfl (Nat.le_of_ble_eq_true rfl) rfl ?_
  intro pX eX sX mX bX tX cX A cx hex
  refine g_iload_n cx dX4_requireIndex_0 rfl ?_
  refine g_if_ne (tgt := 14) cx dX4_requireIndex_1 (by decide) (fun z1 => absurd ((hb : b = false).symm.trans (gB_ne0 z1)) (by decide)) (fun z1 => ?_)
  have z1 := gB_eq0 z1
  exact g_throwS (sa := E.2.2 4) (names := ["java/lang/RuntimeException", "java/lang/Exception"]) cx hl0 hex (by decide +kernel) (by decide +kernel) (by decide +kernel) (by decide +kernel) cx.2.2.2.2.2.1.2.2.2.1.1 (fun w h => List.mem_cons_of_mem _ (List.mem_append_right _ h)) (by decide +kernel) cx.2.2.2.2.2.1.2.2.2.2.2.1 (by decide +kernel) dX4_requireIndex_4 dX4_requireIndex_7 dX4_requireIndex_8 dX4_requireIndex_10 dX4_requireIndex_13 (Nat.le_of_ble_eq_true rfl) (Nat.le_of_ble_eq_true rfl) (Nat.le_of_ble_eq_true rfl) (Nat.le_of_ble_eq_true rfl) (Nat.le_of_ble_eq_true rfl) (Nat.le_of_ble_eq_true rfl)
set_option maxRecDepth 100000 in
set_option maxHeartbeats 4000000 in
theorem c_X4_requireArgument_t (l : Launch) (E : gEnv) (b : Bool) (hb : b = true) : gM l yX4_requireArgument wsX4_requireArgument ({ frames := 0, cells := 0, slots := 0, locals := 0 } : Room) E [.int (gB b)] [] [] none := by
  refine gM.ofG (cc := cX4_requireArgument) (nL := 1) (ret := none) (own := RX4) [(0, .int (gB b))] (by decide) rfl rfl (Nat.le_of_ble_eq_true rfl) rfl rfl ?_
  intro pX eX sX mX bX tX cX A cx
  refine g_iload_n cx dX4_requireArgument_0 rfl ?_
  refine g_if_ne (tgt := 14) cx dX4_requireArgument_1 (by decide) (fun z1 => ?_) (fun z1 => absurd ((hb : b = true).symm.trans (gB_eq0 z1)) (by decide))
  have z1 := gB_ne0 z1
  exact g_vretE cx dX4_requireArgument_14 (rfl)
set_option maxRecDepth 100000 in
set_option maxHeartbeats 4000000 in
theorem c_X4_requireArgument_f (l : Launch) (E : gEnv) (hl0 : l.stackTraces = false) (b : Bool) (hb : b = false) : gZ l yX4_requireArgument wsX4_requireArgument ({ frames := 6, cells := 1, slots := 6, locals := 100 } : Room) E [.int (gB b)] [] "java/lang/IllegalArgumentException" := by
  refine gZ.ofG (cc := cX4_requireArgument) (nL := 1) (ret := none) (own := RX4) [(0, .int (gB b))] (by decide) rfl rfl (Nat.le_of_ble_eq_true rfl) rfl ?_
  intro pX eX sX mX bX tX cX A cx hex
  refine g_iload_n cx dX4_requireArgument_0 rfl ?_
  refine g_if_ne (tgt := 14) cx dX4_requireArgument_1 (by decide) (fun z1 => absurd ((hb : b = false).symm.trans (gB_ne0 z1)) (by decide)) (fun z1 => ?_)
  have z1 := gB_eq0 z1
  exact g_throwS (sa := E.2.2 5) (names := ["java/lang/RuntimeException", "java/lang/Exception"]) cx hl0 hex (by decide +kernel) (by decide +kernel) (by decide +kernel) (by decide +kernel) cx.2.2.2.2.2.1.2.2.2.1.2.1 (fun w h => List.mem_cons_of_mem _ (List.mem_append_right _ h)) (by decide +kernel) cx.2.2.2.2.2.1.2.2.2.2.2.2.1 (by decide +kernel) dX4_requireArgument_4 dX4_requireArgument_7 dX4_requireArgument_8 dX4_requireArgument_10 dX4_requireArgument_13 (Nat.le_of_ble_eq_true rfl) (Nat.le_of_ble_eq_true rfl) (Nat.le_of_ble_eq_true rfl) (Nat.le_of_ble_eq_true rfl) (Nat.le_of_ble_eq_true rfl) (Nat.le_of_ble_eq_true rfl)
set_option maxRecDepth 100000 in
set_option maxHeartbeats 4000000 in
theorem c_X4_requireState_t (l : Launch) (E : gEnv) (b : Bool) (hb : b = true) : gM l yX4_requireState wsX4_requireState ({ frames := 0, cells := 0, slots := 0, locals := 0 } : Room) E [.int (gB b)] [] [] none := by
  refine gM.ofG (cc := cX4_requireState) (nL := 1) (ret := none) (own := RX4) [(0, .int (gB b))] (by decide) rfl rfl (Nat.le_of_ble_eq_true rfl) rfl rfl ?_
  intro pX eX sX mX bX tX cX A cx
  refine g_iload_n cx dX4_requireState_0 rfl ?_
  refine g_if_ne (tgt := 14) cx dX4_requireState_1 (by decide) (fun z1 => ?_) (fun z1 => absurd ((hb : b = true).symm.trans (gB_eq0 z1)) (by decide))
  have z1 := gB_ne0 z1
  exact g_vretE cx dX4_requireState_14 (rfl)
set_option maxRecDepth 100000 in
set_option maxHeartbeats 4000000 in
theorem c_X4_requireState_f (l : Launch) (E : gEnv) (hl0 : l.stackTraces = false) (b : Bool) (hb : b = false) : gZ l yX4_requireState wsX4_requireState ({ frames := 6, cells := 1, slots := 6, locals := 100 } : Room) E [.int (gB b)] [] "java/lang/IllegalStateException" := by
  refine gZ.ofG (cc := cX4_requireState) (nL := 1) (ret := none) (own := RX4) [(0, .int (gB b))] (by decide) rfl rfl (Nat.le_of_ble_eq_true rfl) rfl ?_
  intro pX eX sX mX bX tX cX A cx hex
  refine g_iload_n cx dX4_requireState_0 rfl ?_
  refine g_if_ne (tgt := 14) cx dX4_requireState_1 (by decide) (fun z1 => absurd ((hb : b = false).symm.trans (gB_ne0 z1)) (by decide)) (fun z1 => ?_)
  have z1 := gB_eq0 z1
  exact g_throwS (sa := E.2.2 6) (names := ["java/lang/RuntimeException", "java/lang/Exception"]) cx hl0 hex (by decide +kernel) (by decide +kernel) (by decide +kernel) (by decide +kernel) cx.2.2.2.2.2.1.2.2.2.1.2.2 (fun w h => List.mem_cons_of_mem _ (List.mem_append_right _ h)) (by decide +kernel) cx.2.2.2.2.2.1.2.2.2.2.2.2.2.1 (by decide +kernel) dX4_requireState_4 dX4_requireState_7 dX4_requireState_8 dX4_requireState_10 dX4_requireState_13 (Nat.le_of_ble_eq_true rfl) (Nat.le_of_ble_eq_true rfl) (Nat.le_of_ble_eq_true rfl) (Nat.le_of_ble_eq_true rfl) (Nat.le_of_ble_eq_true rfl) (Nat.le_of_ble_eq_true rfl)
set_option maxRecDepth 100000 in
set_option maxHeartbeats 4000000 in
theorem c_X4_requireCell_t (l : Launch) (E : gEnv) (v : Int32) (hb : bR v 0 63 = true) : gM l yX4_requireCell wsX4_requireCell ({ frames := 1, cells := 0, slots := 0, locals := 20 } : Room) E [.int v] [] [] none := by
  refine gM.ofG (cc := cX4_requireCell) (nL := 1) (ret := none) (own := RX4) [(0, .int v)] (by decide) rfl rfl (Nat.le_of_ble_eq_true rfl) rfl rfl ?_
  intro pX eX sX mX bX tX cX A cx
  refine g_iload_n cx dX4_requireCell_0 rfl ?_
  refine g_callS (ws' := []) (As := [.int v]) (rest := []) (n := 1) cx (c_X4_isCell l E v ) gX4_requireCell_X4_isCell rfl (by decide +kernel) rfl rfl ⟨Nat.le_of_ble_eq_true rfl, Nat.le_of_ble_eq_true rfl⟩ ⟨Nat.zero_le _, Nat.zero_le _⟩ [] (by decide) rfl rfl rfl rfl (Nat.le_of_ble_eq_true rfl) dX4_requireCell_1 ?_
  refine g_callS (ws' := []) (As := [.int (gB (bR v 0 63))]) (rest := []) (n := 1) cx (c_X4_requireIndex_t l E (bR v 0 63) hb) gX4_requireCell_X4_requireIndex rfl (by decide +kernel) rfl rfl ⟨Nat.le_of_ble_eq_true rfl, Nat.le_of_ble_eq_true rfl⟩ ⟨Nat.zero_le _, Nat.zero_le _⟩ [] (by decide) rfl rfl rfl rfl (Nat.le_of_ble_eq_true rfl) dX4_requireCell_4 ?_
  exact g_vretE cx dX4_requireCell_7 (rfl)
set_option maxRecDepth 100000 in
set_option maxHeartbeats 4000000 in
theorem c_X4_requireCell_f (l : Launch) (E : gEnv) (hl0 : l.stackTraces = false) (v : Int32) (hb : bR v 0 63 = false) : gZ l yX4_requireCell wsX4_requireCell ({ frames := 7, cells := 1, slots := 6, locals := 120 } : Room) E [.int v] [] "java/lang/IndexOutOfBoundsException" := by
  refine gZ.ofG (cc := cX4_requireCell) (nL := 1) (ret := none) (own := RX4) [(0, .int v)] (by decide) rfl rfl (Nat.le_of_ble_eq_true rfl) rfl ?_
  intro pX eX sX mX bX tX cX A cx hex
  refine g_iload_n cx dX4_requireCell_0 rfl ?_
  refine g_callS (ws' := []) (As := [.int v]) (rest := []) (n := 1) cx (c_X4_isCell l E v ) gX4_requireCell_X4_isCell rfl (by decide +kernel) rfl rfl ⟨Nat.le_of_ble_eq_true rfl, Nat.le_of_ble_eq_true rfl⟩ ⟨Nat.zero_le _, Nat.zero_le _⟩ [] (by decide) rfl rfl rfl rfl (Nat.le_of_ble_eq_true rfl) dX4_requireCell_1 ?_
  exact g_callSZ (As := [.int (gB (bR v 0 63))]) (rest := []) (n := 1) cx hex (c_X4_requireIndex_f l E hl0 (bR v 0 63) hb) gX4_requireCell_X4_requireIndex rfl (by decide +kernel) rfl rfl ⟨Nat.le_of_ble_eq_true rfl, Nat.le_of_ble_eq_true rfl⟩ ⟨Nat.le_of_ble_eq_true rfl, Nat.le_of_ble_eq_true rfl⟩ [] (by decide) rfl rfl rfl (Nat.le_of_ble_eq_true rfl) dX4_requireCell_4
