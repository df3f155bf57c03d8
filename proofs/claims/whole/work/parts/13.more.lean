section UVM
variable {p : Program} {l : Launch} {e : Env} {R : Room} {s : State} {m : MethodId} {args : Array Value} {below : List Frame} {meth : Method} {c : Code} {H : Heap} {locs : List Loc} {cells slots : Nat} {Q : State → Prop}
variable {pc : Nat} {ls : Array Slot} {rest : List Value}
theorem r_eqI {x v : Int} (hv : v = x) (k : W p l e R s m args below meth c H locs cells slots Q (F0 m pc ls (.int (iV v) :: rest))) : W p l e R s m args below meth c H locs cells slots Q (F0 m pc ls (.int (iV x) :: rest)) := hv ▸ k
theorem r_eqL {x v : Int} (hv : v = x) (k : W p l e R s m args below meth c H locs cells slots Q (F0 m pc ls (.long (lV v) :: rest))) : W p l e R s m args below meth c H locs cells slots Q (F0 m pc ls (.long (lV x) :: rest)) := hv ▸ k
end UVM
/-! rooms of the group that calls itself -/
def rmN (d : Nat) : Room := { frames := 2 * d + 4, cells := 0, slots := 0, locals := 100 * d + 300 }
def rmB (d : Nat) : Room := { frames := 2 * d + 5, cells := 0, slots := 0, locals := 100 * d + 340 }
def sLen (w : Int) : Int := if w = 0 then 3 else 4
def sChr (w i : Int) : Int := if w = 0 then (if i = 0 then 114 else if i = 1 then 111 else 119) else (if i = 0 then 116 else if i = 1 then 114 else 101)
/-! Math.max, min, abs -/
def f_J9_max_7cf53 (a0 a1 : Int) : Int := if wI a0 < wI a1 then a1 else a0
def f_J9_min_7cf53 (a0 a1 : Int) : Int := if wI a1 < wI a0 then a1 else a0
def f_J9_abs_0f7a4 (a0 : Int) : Int := if wI a0 < 0 then 0 - a0 else a0
theorem mw_max : Cond.static Lib.Math.max.name ∈ TB ∧ Cond.code Lib.Math.max.name Lib.Math.max.code 2 (some .int) ∈ TB := ⟨tb_in (i := 341) (by decide +kernel) rfl, tb_in (i := 342) (by decide +kernel) rfl⟩
theorem mw_abs : Cond.static Lib.Math.abs.name ∈ TB ∧ Cond.code Lib.Math.abs.name Lib.Math.abs.code 1 (some .int) ∈ TB := ⟨tb_in (i := 780) (by decide +kernel) rfl, tb_in (i := 781) (by decide +kernel) rfl⟩
theorem mw_min : Cond.static Lib.Math.min.name ∈ TB ∧ Cond.code Lib.Math.min.name Lib.Math.min.code 2 (some .int) ∈ TB := ⟨tb_in (i := 824) (by decide +kernel) rfl, tb_in (i := 825) (by decide +kernel) rfl⟩
theorem mw_ini : Cond.initialized "java/lang/Math" ∈ TB := wd_11
section UVQ
variable {p : Program} {l : Launch} {e : Env} {R : Room} {s : State} {m : MethodId} {args : Array Value} {below : List Frame} {meth : Method} {c : Code} {H : Heap} {locs : List Loc} {cells slots : Nat} {Q : State → Prop}
variable {cc : ByteArray} {nL : Nat} {own : String} {rt : Option FieldType} {pc : Nat} {ls : Array Slot} {rest : List Value}
theorem r_mmax (X : uvCx p m c cc nL own s args meth rt) {index : Nat} {x y : Int} (hl : Cond.methodLink own index Lib.Math.max.name ∈ TB) (hsz : ls.size = nL) (hf : 1 ≤ R.frames) (hlo : (rest.map fun v => v.category).sum + 13 ≤ R.locals) (hc : cells ≤ R.cells ∧ slots ≤ R.slots) (d : decode cc pc = .ok (.invokestatic index, 3))
    (kk : W p l e R s m args below meth c H locs cells slots Q (F0 m (pc + 3) ls (.int (iV (f_J9_max_7cf53 x y)) :: rest))) : W p l e R s m args below meth c H locs cells slots Q (F0 m pc ls (.int (iV y) :: .int (iV x) :: rest)) := by
  have hts := X.2.2.2.2.1
  refine va_mmax X.1 X.2.1 (X.2.2.1.trans hsz.symm) X.2.2.2.1 (hts _ hl) (hts _ mw_max.1) (hts _ mw_ini) (hts _ mw_max.2) hf hlo hc.1 hc.2 d ?_
  have q : (if iV x < iV y then iV y else iV x) = iV (f_J9_max_7cf53 x y) := by
    unfold f_J9_max_7cf53
    by_cases h : wI x < wI y
    · rw [if_pos h, if_pos ((iV_lt x y).mpr h)]
    · rw [if_neg h, if_neg (fun z => h ((iV_lt x y).mp z))]
  rw [q]
  exact kk
theorem r_mmin (X : uvCx p m c cc nL own s args meth rt) {index : Nat} {x y : Int} (hl : Cond.methodLink own index Lib.Math.min.name ∈ TB) (hsz : ls.size = nL) (hf : 1 ≤ R.frames) (hlo : (rest.map fun v => v.category).sum + 13 ≤ R.locals) (hc : cells ≤ R.cells ∧ slots ≤ R.slots) (d : decode cc pc = .ok (.invokestatic index, 3))
    (kk : W p l e R s m args below meth c H locs cells slots Q (F0 m (pc + 3) ls (.int (iV (f_J9_min_7cf53 x y)) :: rest))) : W p l e R s m args below meth c H locs cells slots Q (F0 m pc ls (.int (iV y) :: .int (iV x) :: rest)) := by
  have hts := X.2.2.2.2.1
  refine va_mmin X.1 X.2.1 (X.2.2.1.trans hsz.symm) X.2.2.2.1 (hts _ hl) (hts _ mw_min.1) (hts _ mw_ini) (hts _ mw_min.2) hf hlo hc.1 hc.2 d ?_
  have q : (if iV y < iV x then iV y else iV x) = iV (f_J9_min_7cf53 x y) := by
    unfold f_J9_min_7cf53
    by_cases h : wI y < wI x
    · rw [if_pos h, if_pos ((iV_lt y x).mpr h)]
    · rw [if_neg h, if_neg (fun z => h ((iV_lt y x).mp z))]
  rw [q]
  exact kk
theorem r_mabs (X : uvCx p m c cc nL own s args meth rt) {index : Nat} {x : Int} (hl : Cond.methodLink own index Lib.Math.abs.name ∈ TB) (hsz : ls.size = nL) (hf : 1 ≤ R.frames) (hlo : (rest.map fun v => v.category).sum + 13 ≤ R.locals) (hc : cells ≤ R.cells ∧ slots ≤ R.slots) (d : decode cc pc = .ok (.invokestatic index, 3))
    (kk : W p l e R s m args below meth c H locs cells slots Q (F0 m (pc + 3) ls (.int (iV (f_J9_abs_0f7a4 x)) :: rest))) : W p l e R s m args below meth c H locs cells slots Q (F0 m pc ls (.int (iV x) :: rest)) := by
  have hts := X.2.2.2.2.1
  refine va_mabs X.1 X.2.1 (X.2.2.1.trans hsz.symm) X.2.2.2.1 (hts _ hl) (hts _ mw_abs.1) (hts _ mw_ini) (hts _ mw_abs.2) hf hlo hc.1 hc.2 d ?_
  have q : (if 0 ≤ iV x then iV x else 0 - iV x) = iV (f_J9_abs_0f7a4 x) := by
    unfold f_J9_abs_0f7a4
    by_cases h : wI x < 0
    · rw [if_pos h, if_neg (fun z => by have h2 : wI 0 ≤ wI x := (iV_le 0 x).mp z; have : wI 0 = 0 := rfl; omega)]
      exact iV_sub 0 x
    · have h2 : (0 : Int32) ≤ iV x := (iV_le 0 x).mpr (by have : wI 0 = 0 := rfl; omega)
      rw [if_neg h, if_pos h2]
  rw [q]
  exact kk
end UVQ
theorem pn_test : plainName "java/lang/Long" = true ∧ plainName "java/lang/String" = true ∧ plainName "java/lang/StringLatin1" = true ∧ plainName "jdk/internal/util/Preconditions" = true := by decide
