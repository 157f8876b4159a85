theorem gx_asl {p : Program} {l : Launch} {e : Env} {R : Room} {s : State} {m : MethodId} {args : Array Value} {below : List Frame} {meth : Method} {c : Code} {H : Heap} {locs : List Loc} {cells slots : Nat} {Q : State → Prop} {pc : Nat} {ls : Array Slot} {rest : List Value} {x y : Int64} (h : x = y) (k : W p l e R s m args below meth c H locs cells slots Q (F0 m pc ls (.long y :: rest))) : W p l e R s m args below meth c H locs cells slots Q (F0 m pc ls (.long x :: rest)) := by rw [h]; exact k
/-- an entry of the packed table -/
def ent (bt : Nat) (v : Int32) : Int32 := if bt = 2 then b2 v else b4 v
def entl (bt : Nat) (val : Nat → Int32) (fst i : Nat) : Int64 := Int32.toInt64 (ent bt (val (fst + i))) <<< (Int32.toInt64 (nI (i * bt)) &&& 63)
