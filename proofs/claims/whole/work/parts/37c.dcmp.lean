section GDC
variable {p : Program} {l : Launch} {e : Env} {R : Room} {s : State} {m : MethodId} {args : Array Value} {below : List Frame} {meth : Method} {c : Code} {cc : ByteArray} {nL : Nat} {own : String} {ret : Option FieldType} {Ts : List Cond} {E : gEnv} {A : Nat → Prop} {Q : State → Prop} {cells slots : Nat} {ws : va_W} {lv : List (Nat × Value)} {st : List Value} {pc : Nat}
theorem g_sub {ws' : va_W} (is : List Nat) (hn : va_nd is = true) (h1 : is.filterMap (fun i => ws[i]?) = ws') (h : is.map (fun i => ws[i]?) = ws'.map some) (kk : gG p l e R s m args below meth c nL E A Q (cells) (slots) (ws') (lv) (st) (pc)) : gG p l e R s m args below meth c nL E A Q (cells) (slots) (ws) (lv) (st) (pc) := fun H locs ls hP hD hS hl => kk H locs ls (hP.sub is h1) (hD.sub is hn h) hS hl
end GDC
