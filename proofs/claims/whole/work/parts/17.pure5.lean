/-! the pure words, fifth: the class's mask -/
theorem pst_freeM (w : Bool) (r : Nat) (thr : Int32) (v : Nat → Int32) (e1 e2 : Nat → Int32) (m : Int64) (lo : Int32) : ∀ s, (pst w r thr (v, e1, m, lo) s).2.2.1 = (pst w r thr (v, e2, m, lo) s).2.2.1 := by
  intro s
  induction s with
  | zero => rfl
  | succ s ih =>
    show mkk thr ((pst w r thr (v, e1, m, lo) s).1 (pcl w s)) (pcl w s) (pst w r thr (v, e1, m, lo) s).2.2.1 = mkk thr ((pst w r thr (v, e2, m, lo) s).1 (pcl w s)) (pcl w s) (pst w r thr (v, e2, m, lo) s).2.2.1
    rw [ih, (pst_free w r thr v e1 e2 m m lo s).1]
def pM (w : Bool) (r : Nat) (thr : Int32) (f : Nat → Int32) : Int64 := (pst w r thr (f, fun _ => 0, 0, nI 0) 64).2.2.1
theorem pst_M (w : Bool) (r : Nat) (thr : Int32) (f er : Nat → Int32) : (pst w r thr (f, er, 0, nI 0) 64).2.2.1 = pM w r thr f := pst_freeM w r thr f er _ 0 _ 64
