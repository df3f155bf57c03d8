section UVM
variable {p : Program} {l : Launch} {e : Env} {R : Room} {s : State} {m : MethodId} {args : Array Value} {below : List Frame} {meth : Method} {c : Code} {H : Heap} {locs : List Loc} {cells slots : Nat} {Q : State → Prop}
variable {pc : Nat} {ls : Array Slot} {rest : List Value}
theorem r_eqI {x v : Int} (hv : v = x) (k : W p l e R s m args below meth c H locs cells slots Q (F0 m pc ls (.int (iV v) :: rest))) : W p l e R s m args below meth c H locs cells slots Q (F0 m pc ls (.int (iV x) :: rest)) := hv ▸ k
theorem r_eqL {x v : Int} (hv : v = x) (k : W p l e R s m args below meth c H locs cells slots Q (F0 m pc ls (.long (lV v) :: rest))) : W p l e R s m args below meth c H locs cells slots Q (F0 m pc ls (.long (lV x) :: rest)) := hv ▸ k
end UVM
/-! rooms of the group that calls itself -/
def rmN (d : Nat) : Room := { frames := 2 * d + 4, cells := 0, slots := 0, locals := 100 * d + 300 }
def rmB (d : Nat) : Room := { frames := 2 * d + 5, cells := 0, slots := 0, locals := 100 * d + 340 }
def sLen (w : Int) : Int := if w = 0 then 3 else 4
def sChr (w i : Int) : Int := if w = 0 then (if i = 0 then 114 else if i = 1 then 111 else 119) else (if i = 0 then 116 else if i = 1 then 114 else 101)
