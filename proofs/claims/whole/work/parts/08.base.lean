/-! ===== the tables' words that stay, values, the store ===== -/
def TB : List Cond := lw_tbl.filter goodWord
theorem tb_in {i : Nat} {w : Cond} (h : lw_tbl[i]? = some w) (g : goodWord w = true) : w ∈ TB := List.mem_filter.mpr ⟨List.mem_of_getElem? h, g⟩
theorem tb_good {w : Cond} (h : w ∈ TB) : (w.onTables && w.keeps) = true ∨ ∃ ty, w = .arrayClass ty := good_of_word (List.mem_filter.mp h).2
theorem tb_gi {ws : List Cond} (h : ∀ w ∈ ws, w ∈ TB) : GoodIn TB ws := fun w hw => ⟨h w hw, tb_good (h w hw)⟩
def iV (x : Int) : Int32 := Int32.ofInt x
def lV (x : Int) : Int64 := Int64.ofInt x
def wI (x : Int) : Int := (iV x).toInt
def wL (x : Int) : Int := (lV x).toInt
abbrev St : Type := Int → Int → Int
def upS (σ : St) (o i x : Int) : St := fun o' i' => if o' = o ∧ i' = i then x else σ o' i'
theorem iV_wI (x : Int) : iV (wI x) = iV x := Int32.ofInt_toInt _
theorem iV_add (x y : Int) : iV x + iV y = iV (x + y) := (Int32.ofInt_add x y).symm
theorem iV_sub (x y : Int) : iV x - iV y = iV (x - y) := (Int32.ofInt_sub x y).symm
theorem iV_mul (x y : Int) : iV x * iV y = iV (x * y) := (Int32.ofInt_mul x y).symm
theorem lV_add (x y : Int) : lV x + lV y = lV (x + y) := (Int64.ofInt_add x y).symm
theorem lV_sub (x y : Int) : lV x - lV y = lV (x - y) := (Int64.ofInt_sub x y).symm
theorem lV_mul (x y : Int) : lV x * lV y = lV (x * y) := (Int64.ofInt_mul x y).symm
theorem iV_lt (x y : Int) : iV x < iV y ↔ wI x < wI y := Int32.lt_iff_toInt_lt
theorem iV_le (x y : Int) : iV x ≤ iV y ↔ wI x ≤ wI y := Int32.le_iff_toInt_le
theorem iV_eq (x y : Int) : iV x = iV y ↔ wI x = wI y := Int32.toInt_inj.symm
theorem lV_lt (x y : Int) : lV x < lV y ↔ wL x < wL y := Int64.lt_iff_toInt_lt
theorem lV_eq (x y : Int) : lV x = lV y ↔ wL x = wL y := Int64.toInt_inj.symm
theorem wI_id {x : Int} (h1 : -2147483648 ≤ x) (h2 : x ≤ 2147483647) : wI x = x := Int32.toInt_ofInt_of_le h1 (by omega)
theorem wL_id {x : Int} (h1 : -9223372036854775808 ≤ x) (h2 : x ≤ 9223372036854775807) : wL x = x := Int64.toInt_ofInt_of_le h1 (by omega)
theorem wI_rng (x : Int) : -2147483648 ≤ wI x ∧ wI x ≤ 2147483647 := by
  have h1 := Int32.le_toInt (iV x)
  have h2 := Int32.toInt_lt (iV x)
  unfold wI
  omega
theorem iV_clamp {i : Int} {n : Nat} (h : 0 ≤ i ∧ i < n) (hn : n < 2147483648) : (iV i).toNatClampNeg = i.toNat := by
  have := wI_id (x := i) (by omega) (by omega)
  show (iV i).toInt.toNat = i.toNat
  show (wI i).toNat = i.toNat
  rw [this]
theorem iV_in {i : Int} {n : Nat} (h : 0 ≤ i ∧ i < n) (hn : n < 2147483648) : vp_in (iV i) n := by
  rw [vp_in_iff]
  have := wI_id (x := i) (by omega) (by omega)
  show 0 ≤ wI i ∧ wI i < n
  rw [this]
  exact h
/-! other operations, by the machine's own -/
def shlI (x y : Int) : Int := (iV x <<< (iV y &&& 31)).toInt
def shrI (x y : Int) : Int := (iV x >>> (iV y &&& 31)).toInt
def andI (x y : Int) : Int := (iV x &&& iV y).toInt
def orI (x y : Int) : Int := (iV x ||| iV y).toInt
def divI (x y : Int) : Int := (iV x / iV y).toInt
def negI (x : Int) : Int := (-(iV x)).toInt
def divL (x y : Int) : Int := (lV x / lV y).toInt
def remL (x y : Int) : Int := (lV x - lV x / lV y * lV y).toInt
def andL (x y : Int) : Int := (lV x &&& lV y).toInt
def orL (x y : Int) : Int := (lV x ||| lV y).toInt
def shlL (x y : Int) : Int := (lV x <<< ((iV y).toInt64 &&& 63)).toInt
def ushrL (x y : Int) : Int := ((lV x).toUInt64 >>> ((iV y).toInt64.toUInt64 &&& Int64.toUInt64 63)).toInt64.toInt
def i2lI (x : Int) : Int := wI x
def cmpL (x y : Int) : Int := if wL y < wL x then 1 else if wL x = wL y then 0 else -1
def i2cI (x : Int) : Int := ((iV x).toUInt32 % 65536).toInt32.toInt
/-! the mirror's own words -/
def rdA {α : Type} (n : Nat) (σ : St) (o i : Int) (k : Int → Option α) : Option α := if 0 ≤ i ∧ i < n then k (σ o i) else none
def wrA {α : Type} (n : Nat) (σ : St) (o i x : Int) (k : St → Option α) : Option α := if 0 ≤ i ∧ i < n then k (upS σ o i x) else none
def wrF {α : Type} (σ : St) (o i x : Int) (k : St → α) : α := k (upS σ o i x)
def ixA {α : Type} (n : Nat) (i : Int) (k : Option α) : Option α := if 0 ≤ i ∧ i < n then k else none
def bd2 {α : Type} (a : Option (Int × St)) (k : Int → St → Option α) : Option α := match a with
  | some r => k r.1 r.2
  | none => none
def bd1 {α : Type} (a : Option Int) (k : Int → Option α) : Option α := match a with
  | some r => k r
  | none => none
def bnd {α : Type} (a : Int) (k : Int → α) : α := k a
theorem rdA_ex {α : Type} {n : Nat} {σ : St} {o i : Int} {k : Int → Option α} {r : α} (h : rdA n σ o i k = some r) : ∃ v, v = σ o i ∧ (0 ≤ i ∧ i < n) ∧ k v = some r := by
  unfold rdA at h
  by_cases c : 0 ≤ i ∧ i < n
  · rw [if_pos c] at h; exact ⟨_, rfl, c, h⟩
  · rw [if_neg c] at h; cases h
theorem wrA_ex {α : Type} {n : Nat} {σ : St} {o i x : Int} {k : St → Option α} {r : α} (h : wrA n σ o i x k = some r) : ∃ σ', σ' = upS σ o i x ∧ (0 ≤ i ∧ i < n) ∧ k σ' = some r := by
  unfold wrA at h
  by_cases c : 0 ≤ i ∧ i < n
  · rw [if_pos c] at h; exact ⟨_, rfl, c, h⟩
  · rw [if_neg c] at h; cases h
theorem ixA_ex {α : Type} {n : Nat} {i : Int} {k : Option α} {r : α} (h : ixA n i k = some r) : (0 ≤ i ∧ i < n) ∧ k = some r := by
  unfold ixA at h
  by_cases c : 0 ≤ i ∧ i < n
  · rw [if_pos c] at h; exact ⟨c, h⟩
  · rw [if_neg c] at h; cases h
theorem wrF_ex {α : Type} {σ : St} {o i x : Int} {k : St → α} {r : α} (h : wrF σ o i x k = r) : ∃ σ', σ' = upS σ o i x ∧ k σ' = r := ⟨_, rfl, h⟩
theorem bd2_ex {α : Type} {a : Option (Int × St)} {k : Int → St → Option α} {r : α} (h : bd2 a k = some r) : ∃ v σ', a = some (v, σ') ∧ k v σ' = some r := by
  cases a with
  | none => cases h
  | some q => exact ⟨q.1, q.2, rfl, h⟩
theorem bd1_ex {α : Type} {a : Option Int} {k : Int → Option α} {r : α} (h : bd1 a k = some r) : ∃ v, a = some v ∧ k v = some r := by
  cases a with
  | none => cases h
  | some q => exact ⟨q, rfl, h⟩
theorem bnd_ex {α : Type} {a : Int} {k : Int → α} {r : α} (h : bnd a k = r) : ∃ v, v = a ∧ k v = r := ⟨_, rfl, h⟩
theorem ite_t {α : Type} {c : Prop} {_ : Decidable c} {a b r : α} (hc : c) (h : (if c then a else b) = r) : a = r := by rw [if_pos hc] at h; exact h
theorem ite_f {α : Type} {c : Prop} {_ : Decidable c} {a b r : α} (hc : ¬ c) (h : (if c then a else b) = r) : b = r := by rw [if_neg hc] at h; exact h
theorem ite_some {α : Type} {c : Prop} {_ : Decidable c} {a : Option α} {r : α} (h : (if c then a else none) = some r) : c ∧ a = some r := by
  by_cases hc : c
  · rw [if_pos hc] at h; exact ⟨hc, h⟩
  · rw [if_neg hc] at h; cases h
theorem ite_10 {c : Prop} {_ : Decidable c} : (if c then (1 : Int) else 0) = 0 ∨ (if c then (1 : Int) else 0) = 1 := by
  by_cases h : c
  · right; rw [if_pos h]
  · left; rw [if_neg h]
theorem ite_01 {c : Prop} {_ : Decidable c} : (if c then (0 : Int) else 1) = 0 ∨ (if c then (0 : Int) else 1) = 1 := by
  by_cases h : c
  · left; rw [if_pos h]
  · right; rw [if_neg h]
/-! ===== the cells: ids in the order in which they are made; their kinds, lengths, links ===== -/
def uvKd (o : Int) : Nat :=
  if o = 0 then 9 else if o = 1 then 8 else if o = 10 ∨ o = 23 then 4 else if o = 14 ∨ o = 27 then 7 else if o = 21 then 6 else if o = 35 then 2
  else if o = 54 then 3 else if o = 55 then 0 else if o = 118 then 10 else if o = 37 then 12 else if o = 56 then 13
  else if 38 ≤ o ∧ o < 54 ∧ o % 2 = 0 then 1 else if o = 57 ∨ o = 63 ∨ (70 ≤ o ∧ o < 118 ∧ (o - 70) % 6 = 0) then 5
  else if 0 ≤ o ∧ o < 142 then 11 else 99
def uvLn (o : Int) : Nat :=
  if o < 9 then 40 else if o = 9 then 4 else if o < 14 then 8 else if o < 23 then 120 else if o < 27 then 8 else if o < 34 then 120
  else if o = 34 then 6 else if o = 36 then 40 else if o = 37 then 8 else if o < 54 then 40 else if o = 56 then 8 else if o < 69 then 1
  else if o = 69 then 8 else if o < 118 then 40 else if o = 119 then 240 else if o = 120 then 24 else if o = 121 then 6 else if o < 126 then 128
  else if o = 126 then 3 else if o = 127 then 120 else if o = 128 then 24 else if o < 133 then 128 else if o < 135 then 8 else if o = 135 then 320
  else if o = 136 then 8 else if o < 141 then 320 else 8
def uvRf (o i : Int) : Int :=
  if o = 0 then (if i = 0 then 1 else if i = 1 then 10 else if i = 2 then 14 else if i = 3 then 21 else if i = 4 then 34 else if i = 5 then 35 else if i = 6 then 54 else 55)
  else if o = 21 then (if i = 0 then 22 else if i = 1 then 23 else 27)
  else if o = 35 then (if i = 0 then 1 else if i = 1 then 10 else if i = 2 then 14 else if i = 3 then 34 else if i = 4 then 36 else 37)
  else if o = 37 then 38 + 2 * i
  else if o = 54 then (if i = 0 then 1 else 10)
  else if o = 55 then (if i = 0 then 10 else if i = 1 then 37 else if i = 2 then 54 else if i = 3 then 56 else if i = 4 then 57 else if i = 5 then 63 else 69)
  else if o = 56 then 70 + 6 * i
  else if o = 118 then (if i = 0 then 119 else if i = 2 then 120 else if i = 4 then 121 else if i < 10 then 116 + i else if i < 14 then 114 + i else if i < 21 then 112 + i
    else if i < 27 then 110 + i else if i < 34 then 107 + i else 141)
  else o + 1 + i
def uvNf (ci : Nat) : Nat := match ci with
  | 0 => 7 | 1 => 4 | 2 => 6 | 3 => 2 | 4 => 4 | 5 => 5 | 6 => 7 | 7 => 9 | 8 => 9 | 9 => 12 | _ => 40
def uvIr (ci j : Nat) : Bool := match ci with
  | 0 => true | 1 => j == 0 | 2 => true | 3 => true | 4 => Nat.blt j 3 | 5 => true | 6 => Nat.blt j 3 | 7 => Nat.blt j 6 | 8 => Nat.blt j 8 | 9 => Nat.blt j 8
  | _ => [0, 2, 4, 6, 7, 8, 9, 12, 13, 16, 17, 18, 19, 20, 23, 24, 25, 26, 30, 31, 32, 33, 38].contains j
def uvNN : Nat := 142
abbrev UG : Type := va_G × (Nat → ClassId) × (Int → Nat) × (Nat → Nat) × (Nat → Nat)
def uvFs (ad : Int → Nat) (σ : St) (ρ : Int → Int → Option Int) (o : Int) (ci : Nat) : List Value := (List.range (uvNf ci)).map (fun (j : Nat) => if uvIr ci j = true then va_rf ((ρ o j).map ad) else .int (iV (σ o j)))
def uvCe (G : UG) (σ : St) (ρ : Int → Int → Option Int) (o : Int) : va_E :=
  if uvKd o < 11 then .inr (uvKd o, uvFs G.2.2.1 σ ρ o (uvKd o)) else if uvKd o = 11 then .inl (G.2.1 0, uvLn o, .inl (fun i => iV (σ o i)))
  else .inl (G.2.1 (uvKd o - 11), uvLn o, .inr (.inr (.inr (.inr (fun i => (ρ o i).map G.2.2.1)))))
def uvWs (G : UG) (n : Nat) (σ : St) (ρ : Int → Int → Option Int) : va_W := (List.range n).map (fun (k : Nat) => (G.2.2.1 k, uvCe G σ ρ k))
def uvR0 (o i : Int) : Option Int := some (uvRf o i)
def uvTy (G : UG) : List (ClassId × FieldType) := [(G.2.1 0, .int), (G.2.1 1, .object "UnitVoices$Choice"), (G.2.1 2, .object "UnitVoices$Tally")]
def uvA (G : UG) : Nat → Prop := fun q => ∃ k : Nat, k < uvNN ∧ G.2.2.1 k = q
theorem uvWs_at {G : UG} {n : Nat} {σ : St} {ρ : Int → Int → Option Int} {o : Int} (h : 0 ≤ o ∧ o < n) : (uvWs G n σ ρ)[o.toNat]? = some (G.2.2.1 o, uvCe G σ ρ o) := by
  obtain ⟨k, rfl⟩ := Int.eq_ofNat_of_zero_le h.1
  have hk : k < n := by omega
  simp [uvWs, hk]
theorem ite_ltN {c : Prop} {_ : Decidable c} {a b N : Nat} (ha : a < N) (hb : b < N) : (if c then a else b) < N := by
  by_cases h : c
  · rw [if_pos h]; exact ha
  · rw [if_neg h]; exact hb
theorem uvLn_lt (o : Int) : uvLn o < 2147483648 := by
  unfold uvLn
  repeat (refine ite_ltN (by decide) ?_)
  decide
theorem uvKd_in {o : Int} {k : Nat} (h : uvKd o = k) (hk : k < 99) : 0 ≤ o ∧ o < (uvNN : Int) := by
  have h0 : uvKd o ≠ 99 := by omega
  clear h hk
  unfold uvKd at h0
  unfold uvNN
  by_cases hb : 0 ≤ o ∧ o < 142
  · exact hb
  · exfalso
    apply h0
    repeat rw [if_neg (by omega)]
/-! ===== the fixed parts of a walk ===== -/
def uvSs (G : UG) (U : State) (H : Heap) : Prop :=
  vk_S 2 [3, 4] [[114, 111, 119], [116, 114, 101, 101]] G.2.2.2.1 G.2.2.2.2 (uvA G) U H ∧ va_Z "java/lang/String" "COMPACT_STRINGS" "Z" (.int 1) (uvA G) U H ∧ (∃ v : Value, (v = .null ∨ ∃ a, v = .ref a) ∧ va_Z "jdk/internal/util/Preconditions" "SIOOBE_FORMATTER" "Ljava/util/function/BiFunction;" v (uvA G) U H)
def uvNs (G : UG) (U : State) : Prop := vk_R "UnitVoices$Text" 63 "row" (G.2.2.2.1 0) U ∧ vk_R "UnitVoices$Text" 84 "tree" (G.2.2.2.1 1) U ∧ va_Nw (.methodLinkNest "UnitVoices$Units" 43 yX9_isTake "UnitVoices") U ∧ va_Nw (.methodLinkNest "UnitVoices$Text" 68 yX9_within "UnitVoices") U
def uvIj (G : UG) : Prop := ∀ i j : Nat, i < uvNN → j < uvNN → G.2.2.1 i = G.2.2.1 j → i = j
def uvGd (G : UG) (U : State) (H : Heap) : Prop := va_K G.1 uvCl (uvTy G) U ∧ uvIj G ∧ uvNs G U ∧ uvSs G U H
def uvIn (G : UG) (σ : St) (U : State) : Prop := va_P G.1 uvCl (uvWs G uvNN σ uvR0) U.heap ∧ uvGd G U U.heap
theorem uvSs.moved {G : UG} {u U : State} {H H1 : Heap} (hvm : u.vm.Alike U.vm) (hq : ∀ a : Nat, a < H.size → ¬ uvA G a → H1[a]? = H[a]?) (h : uvSs G u H) : uvSs G U H1 := by
  obtain ⟨h1, h2, v, hv, h3⟩ := h
  exact ⟨(h1.moved hvm).kept hq, (h2.moved hvm).kept hq, v, hv, (h3.moved hvm).kept hq⟩
theorem uvGd.warm {G : UG} {s U : State} {H H1 : Heap} (hW : s.WarmedH U.vm) (hq : ∀ a : Nat, a < H.size → ¬ uvA G a → H1[a]? = H[a]?) (h : uvGd G s H) : uvGd G U H1 := by
  obtain ⟨h1, h2, ⟨h3, h4, h5, h6⟩, h7⟩ := h
  exact ⟨h1.moved hW.alike, h2, ⟨h3.warm hW, h4.warm hW, h5.warmM hW, h6.warmM hW⟩, h7.moved hW.alike hq⟩
theorem uvGd.same {G : UG} {s U : State} {H : Heap} (hv : s.vm = U.vm) (h : uvGd G s H) : uvGd G U H := by
  obtain ⟨h1, h2, ⟨h3, h4, h5, h6⟩, h7⟩ := h
  have ha : s.vm.Alike U.vm := by rw [← hv]; exact Vm.Alike.refl s.vm
  exact ⟨h1.moved ha, h2, ⟨h3.same hv.symm, h4.same hv.symm, h5.same rfl hv, h6.same rfl hv⟩, h7.moved ha (fun _ _ _ => rfl)⟩
theorem uvD {G : UG} (h : uvIj G) (σ : St) (ρ : Int → Int → Option Int) : va_D (uvA G) (uvWs G uvNN σ ρ) := by
  have key : ∀ (k : Nat) (q : Nat × va_E), (uvWs G uvNN σ ρ)[k]? = some q → k < uvNN ∧ q.1 = G.2.2.1 k := by
    intro k q hk
    have hlt : k < uvNN := by
      have := (List.getElem?_eq_some_iff.mp hk).1
      simpa [uvWs] using this
    have e := uvWs_at (G := G) (n := uvNN) (σ := σ) (ρ := ρ) (o := (k : Int)) ⟨by omega, by omega⟩
    simp only [Int.toNat_natCast] at e
    rw [e] at hk
    cases hk
    exact ⟨hlt, rfl⟩
  refine ⟨fun i j p q hi hj e => ?_, fun k q hk => ?_⟩
  · obtain ⟨a1, a2⟩ := key i p hi
    obtain ⟨b1, b2⟩ := key j q hj
    exact h i j a1 b1 (by rw [← a2, ← b2]; exact e)
  · obtain ⟨a1, a2⟩ := key k q hk
    exact ⟨k, a1, a2.symm⟩
def uvCx (p : Program) (m : MethodId) (c : Code) (cc : ByteArray) (nL : Nat) (own : String) (s : State) (args : Array Value) (meth : Method) (rt : Option FieldType) : Prop :=
  p.tables.exec = Jvm.exec ∧ c.code = cc ∧ c.maxLocals = nL ∧ s.vm.findClass own = some m.cls ∧ (∀ w ∈ TB, w.before args s = true) ∧ meth.sig.returnType = rt ∧ meth.locks = false
def uvWo (G : UG) (σ : St) (s : State) (H : Heap) (locs : List Loc) : Prop := va_P G.1 uvCl (uvWs G uvNN σ uvR0) H ∧ va_S (uvA G) s.heap H locs
theorem uvWs_upF {G : UG} {n : Nat} {σ : St} {ρ : Int → Int → Option Int} {o x : Int} {j : Nat} (h : 0 ≤ o ∧ o < n) (hk : uvKd o < 11) (hi : uvIr (uvKd o) j = false) :
    (uvWs G n σ ρ).set o.toNat (G.2.2.1 o, .inr (uvKd o, (uvFs G.2.2.1 σ ρ o (uvKd o)).set j (.int (iV x)))) = uvWs G n (upS σ o j x) ρ := by
  obtain ⟨k, rfl⟩ := Int.eq_ofNat_of_zero_le h.1
  have hkn : k < n := by omega
  apply List.ext_getElem?
  intro q
  rw [List.getElem?_set]
  simp only [Int.toNat_natCast, uvWs, List.length_map, List.length_range]
  by_cases hq : k = q
  · subst hq
    rw [if_pos rfl, if_pos hkn]
    simp only [List.getElem?_map, List.getElem?_range hkn, Option.map_some, uvCe, hk, if_true]
    congr 4
    apply List.ext_getElem?
    intro z
    rw [List.getElem?_set]
    simp only [uvFs, List.length_map, List.length_range, List.getElem?_map]
    by_cases hz : j = z
    · subst hz
      rw [if_pos rfl]
      by_cases hl : j < uvNf (uvKd k)
      · rw [if_pos hl, List.getElem?_range hl]
        simp [hi, upS]
      · rw [if_neg hl, List.getElem?_eq_none (by simpa using hl)]
        rfl
    · rw [if_neg hz]
      by_cases hl : z < uvNf (uvKd k)
      · rw [List.getElem?_range hl]
        simp only [Option.map_some]
        have : ¬ (z : Int) = j := by omega
        simp [upS, this]
      · rw [List.getElem?_eq_none (by simpa using hl)]
        rfl
  · rw [if_neg hq]
    by_cases hl : q < n
    · simp only [List.getElem?_map, List.getElem?_range hl, Option.map_some]
      have hne : ∀ z : Int, ¬ ((q : Int) = k ∧ z = j) := by intro z; omega
      have e : uvCe G (upS σ k j x) ρ q = uvCe G σ ρ q := by simp [uvCe, uvFs, upS, hne]
      rw [e]
    · rw [List.getElem?_eq_none (by simpa using hl), List.getElem?_eq_none (by simpa using hl)]
theorem uvWs_upA {G : UG} {n : Nat} {σ : St} {ρ : Int → Int → Option Int} {o i x : Int} (h : 0 ≤ o ∧ o < n) (hk : uvKd o = 11) (hi : 0 ≤ i) :
    (uvWs G n σ ρ).set o.toNat (G.2.2.1 o, .inl (G.2.1 0, uvLn o, .inl (upd (fun j => iV (σ o j)) i.toNat (iV x)))) = uvWs G n (upS σ o i x) ρ := by
  obtain ⟨k, rfl⟩ := Int.eq_ofNat_of_zero_le h.1
  obtain ⟨i, rfl⟩ := Int.eq_ofNat_of_zero_le hi
  have hkn : k < n := by omega
  apply List.ext_getElem?
  intro q
  rw [List.getElem?_set]
  simp only [Int.toNat_natCast, uvWs, List.length_map, List.length_range]
  by_cases hq : k = q
  · subst hq
    rw [if_pos rfl, if_pos hkn]
    have e : upd (fun (j : Nat) => iV (σ k j)) i (iV x) = fun (j : Nat) => iV (upS σ k i x k j) := by
      funext z
      by_cases hz : z = i
      · subst hz; simp [upd, upS]
      · have : ¬ (z : Int) = i := by omega
        simp [upd, upS, hz, this]
    simp only [List.getElem?_map, List.getElem?_range hkn, Option.map_some, uvCe, hk]
    rw [e]
    rfl
  · rw [if_neg hq]
    by_cases hl : q < n
    · simp only [List.getElem?_map, List.getElem?_range hl, Option.map_some]
      have hne : ∀ z : Int, ¬ ((q : Int) = k ∧ z = i) := by intro z; omega
      have e : uvCe G (upS σ k i x) ρ q = uvCe G σ ρ q := by simp [uvCe, uvFs, upS, hne]
      rw [e]
    · rw [List.getElem?_eq_none (by simpa using hl), List.getElem?_eq_none (by simpa using hl)]
