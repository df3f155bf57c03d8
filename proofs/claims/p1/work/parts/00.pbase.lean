def iV (x : Int) : Int32 := Int32.ofInt x
def lV (x : Int) : Int64 := Int64.ofInt x
def wI (x : Int) : Int := (iV x).toInt
def wL (x : Int) : Int := (lV x).toInt
abbrev St : Type := Int → Int → Int
def upS (σ : St) (o i x : Int) : St := fun o' i' => if o' = o ∧ i' = i then x else σ o' i'
theorem iV_wI (x : Int) : iV (wI x) = iV x := Int32.ofInt_toInt _
theorem iV_add (x y : Int) : iV x + iV y = iV (x + y) := (Int32.ofInt_add x y).symm
theorem iV_sub (x y : Int) : iV x - iV y = iV (x - y) := (Int32.ofInt_sub x y).symm
theorem iV_mul (x y : Int) : iV x * iV y = iV (x * y) := (Int32.ofInt_mul x y).symm
theorem lV_add (x y : Int) : lV x + lV y = lV (x + y) := (Int64.ofInt_add x y).symm
theorem lV_sub (x y : Int) : lV x - lV y = lV (x - y) := (Int64.ofInt_sub x y).symm
theorem lV_mul (x y : Int) : lV x * lV y = lV (x * y) := (Int64.ofInt_mul x y).symm
theorem iV_lt (x y : Int) : iV x < iV y ↔ wI x < wI y := Int32.lt_iff_toInt_lt
theorem iV_le (x y : Int) : iV x ≤ iV y ↔ wI x ≤ wI y := Int32.le_iff_toInt_le
theorem iV_eq (x y : Int) : iV x = iV y ↔ wI x = wI y := Int32.toInt_inj.symm
theorem lV_lt (x y : Int) : lV x < lV y ↔ wL x < wL y := Int64.lt_iff_toInt_lt
theorem lV_eq (x y : Int) : lV x = lV y ↔ wL x = wL y := Int64.toInt_inj.symm
theorem wI_id {x : Int} (h1 : -2147483648 ≤ x) (h2 : x ≤ 2147483647) : wI x = x := Int32.toInt_ofInt_of_le h1 (by omega)
theorem wL_id {x : Int} (h1 : -9223372036854775808 ≤ x) (h2 : x ≤ 9223372036854775807) : wL x = x := Int64.toInt_ofInt_of_le h1 (by omega)
theorem wI_rng (x : Int) : -2147483648 ≤ wI x ∧ wI x ≤ 2147483647 := by
  have h1 := Int32.le_toInt (iV x)
  have h2 := Int32.toInt_lt (iV x)
  unfold wI
  omega
theorem iV_clamp {i : Int} {n : Nat} (h : 0 ≤ i ∧ i < n) (hn : n < 2147483648) : (iV i).toNatClampNeg = i.toNat := by
  have := wI_id (x := i) (by omega) (by omega)
  show (iV i).toInt.toNat = i.toNat
  show (wI i).toNat = i.toNat
  rw [this]
theorem iV_in {i : Int} {n : Nat} (h : 0 ≤ i ∧ i < n) (hn : n < 2147483648) : vp_in (iV i) n := by
  rw [vp_in_iff]
  have := wI_id (x := i) (by omega) (by omega)
  show 0 ≤ wI i ∧ wI i < n
  rw [this]
  exact h
/-! other operations, by the machine's own -/
def shlI (x y : Int) : Int := (iV x <<< (iV y &&& 31)).toInt
def shrI (x y : Int) : Int := (iV x >>> (iV y &&& 31)).toInt
def andI (x y : Int) : Int := (iV x &&& iV y).toInt
def orI (x y : Int) : Int := (iV x ||| iV y).toInt
def divI (x y : Int) : Int := (iV x / iV y).toInt
def negI (x : Int) : Int := (-(iV x)).toInt
def divL (x y : Int) : Int := (lV x / lV y).toInt
def remL (x y : Int) : Int := (lV x - lV x / lV y * lV y).toInt
def andL (x y : Int) : Int := (lV x &&& lV y).toInt
def orL (x y : Int) : Int := (lV x ||| lV y).toInt
def shlL (x y : Int) : Int := (lV x <<< ((iV y).toInt64 &&& 63)).toInt
def ushrL (x y : Int) : Int := ((lV x).toUInt64 >>> ((iV y).toInt64.toUInt64 &&& Int64.toUInt64 63)).toInt64.toInt
def i2lI (x : Int) : Int := wI x
def cmpL (x y : Int) : Int := if wL y < wL x then 1 else if wL x = wL y then 0 else -1
def i2cI (x : Int) : Int := ((iV x).toUInt32 % 65536).toInt32.toInt
/-! the mirror's own words -/
def rdA {α : Type} (n : Nat) (σ : St) (o i : Int) (k : Int → Option α) : Option α := if 0 ≤ i ∧ i < n then k (σ o i) else none
def wrA {α : Type} (n : Nat) (σ : St) (o i x : Int) (k : St → Option α) : Option α := if 0 ≤ i ∧ i < n then k (upS σ o i x) else none
def wrF {α : Type} (σ : St) (o i x : Int) (k : St → α) : α := k (upS σ o i x)
def ixA {α : Type} (n : Nat) (i : Int) (k : Option α) : Option α := if 0 ≤ i ∧ i < n then k else none
def bd2 {α : Type} (a : Option (Int × St)) (k : Int → St → Option α) : Option α := match a with
  | some r => k r.1 r.2
  | none => none
def bd1 {α : Type} (a : Option Int) (k : Int → Option α) : Option α := match a with
  | some r => k r
  | none => none
def bnd {α : Type} (a : Int) (k : Int → α) : α := k a
theorem rdA_ex {α : Type} {n : Nat} {σ : St} {o i : Int} {k : Int → Option α} {r : α} (h : rdA n σ o i k = some r) : ∃ v, v = σ o i ∧ (0 ≤ i ∧ i < n) ∧ k v = some r := by
  unfold rdA at h
  by_cases c : 0 ≤ i ∧ i < n
  · rw [if_pos c] at h; exact ⟨_, rfl, c, h⟩
  · rw [if_neg c] at h; cases h
theorem wrA_ex {α : Type} {n : Nat} {σ : St} {o i x : Int} {k : St → Option α} {r : α} (h : wrA n σ o i x k = some r) : ∃ σ', σ' = upS σ o i x ∧ (0 ≤ i ∧ i < n) ∧ k σ' = some r := by
  unfold wrA at h
  by_cases c : 0 ≤ i ∧ i < n
  · rw [if_pos c] at h; exact ⟨_, rfl, c, h⟩
  · rw [if_neg c] at h; cases h
theorem ixA_ex {α : Type} {n : Nat} {i : Int} {k : Option α} {r : α} (h : ixA n i k = some r) : (0 ≤ i ∧ i < n) ∧ k = some r := by
  unfold ixA at h
  by_cases c : 0 ≤ i ∧ i < n
  · rw [if_pos c] at h; exact ⟨c, h⟩
  · rw [if_neg c] at h; cases h
theorem wrF_ex {α : Type} {σ : St} {o i x : Int} {k : St → α} {r : α} (h : wrF σ o i x k = r) : ∃ σ', σ' = upS σ o i x ∧ k σ' = r := ⟨_, rfl, h⟩
theorem bd2_ex {α : Type} {a : Option (Int × St)} {k : Int → St → Option α} {r : α} (h : bd2 a k = some r) : ∃ v σ', a = some (v, σ') ∧ k v σ' = some r := by
  cases a with
  | none => cases h
  | some q => exact ⟨q.1, q.2, rfl, h⟩
theorem bd1_ex {α : Type} {a : Option Int} {k : Int → Option α} {r : α} (h : bd1 a k = some r) : ∃ v, a = some v ∧ k v = some r := by
  cases a with
  | none => cases h
  | some q => exact ⟨q, rfl, h⟩
theorem bnd_ex {α : Type} {a : Int} {k : Int → α} {r : α} (h : bnd a k = r) : ∃ v, v = a ∧ k v = r := ⟨_, rfl, h⟩
theorem ite_t {α : Type} {c : Prop} {_ : Decidable c} {a b r : α} (hc : c) (h : (if c then a else b) = r) : a = r := by rw [if_pos hc] at h; exact h
theorem ite_f {α : Type} {c : Prop} {_ : Decidable c} {a b r : α} (hc : ¬ c) (h : (if c then a else b) = r) : b = r := by rw [if_neg hc] at h; exact h
theorem ite_some {α : Type} {c : Prop} {_ : Decidable c} {a : Option α} {r : α} (h : (if c then a else none) = some r) : c ∧ a = some r := by
  by_cases hc : c
  · rw [if_pos hc] at h; exact ⟨hc, h⟩
  · rw [if_neg hc] at h; cases h
theorem ite_10 {c : Prop} {_ : Decidable c} : (if c then (1 : Int) else 0) = 0 ∨ (if c then (1 : Int) else 0) = 1 := by
  by_cases h : c
  · right; rw [if_pos h]
  · left; rw [if_neg h]
theorem ite_01 {c : Prop} {_ : Decidable c} : (if c then (0 : Int) else 1) = 0 ∨ (if c then (0 : Int) else 1) = 1 := by
  by_cases h : c
  · left; rw [if_pos h]
  · right; rw [if_neg h]
def uvLn (o : Int) : Nat :=
  if o < 9 then 40 else if o = 9 then 4 else if o < 14 then 8 else if o < 23 then 120 else if o < 27 then 8 else if o < 34 then 120
  else if o = 34 then 6 else if o = 36 then 40 else if o = 37 then 8 else if o < 54 then 40 else if o = 56 then 8 else if o < 69 then 1
  else if o = 69 then 8 else if o < 118 then 40 else if o = 119 then 240 else if o = 120 then 24 else if o = 121 then 6 else if o < 126 then 128
  else if o = 126 then 3 else if o = 127 then 120 else if o = 128 then 24 else if o < 133 then 128 else if o < 135 then 8 else if o = 135 then 320
  else if o = 136 then 8 else if o < 141 then 320 else 8
theorem ln_2 : uvLn 2 = 40 := rfl
theorem ln_3 : uvLn 3 = 40 := rfl
theorem ln_4 : uvLn 4 = 40 := rfl
theorem ln_5 : uvLn 5 = 40 := rfl
theorem ln_6 : uvLn 6 = 40 := rfl
theorem ln_7 : uvLn 7 = 40 := rfl
theorem ln_8 : uvLn 8 = 40 := rfl
theorem ln_9 : uvLn 9 = 4 := rfl
theorem ln_11 : uvLn 11 = 8 := rfl
theorem ln_12 : uvLn 12 = 8 := rfl
theorem ln_13 : uvLn 13 = 8 := rfl
theorem ln_15 : uvLn 15 = 120 := rfl
theorem ln_16 : uvLn 16 = 120 := rfl
theorem ln_17 : uvLn 17 = 120 := rfl
theorem ln_18 : uvLn 18 = 120 := rfl
theorem ln_19 : uvLn 19 = 120 := rfl
theorem ln_20 : uvLn 20 = 120 := rfl
theorem ln_22 : uvLn 22 = 120 := rfl
theorem ln_24 : uvLn 24 = 8 := rfl
theorem ln_25 : uvLn 25 = 8 := rfl
theorem ln_26 : uvLn 26 = 8 := rfl
theorem ln_28 : uvLn 28 = 120 := rfl
theorem ln_29 : uvLn 29 = 120 := rfl
theorem ln_30 : uvLn 30 = 120 := rfl
theorem ln_31 : uvLn 31 = 120 := rfl
theorem ln_32 : uvLn 32 = 120 := rfl
theorem ln_33 : uvLn 33 = 120 := rfl
theorem ln_34 : uvLn 34 = 6 := rfl
theorem ln_36 : uvLn 36 = 40 := rfl
theorem ln_37 : uvLn 37 = 8 := rfl
theorem ln_39 : uvLn 39 = 40 := rfl
theorem ln_41 : uvLn 41 = 40 := rfl
theorem ln_43 : uvLn 43 = 40 := rfl
theorem ln_45 : uvLn 45 = 40 := rfl
theorem ln_47 : uvLn 47 = 40 := rfl
theorem ln_49 : uvLn 49 = 40 := rfl
theorem ln_51 : uvLn 51 = 40 := rfl
theorem ln_53 : uvLn 53 = 40 := rfl
theorem ln_56 : uvLn 56 = 8 := rfl
theorem ln_58 : uvLn 58 = 1 := rfl
theorem ln_59 : uvLn 59 = 1 := rfl
theorem ln_60 : uvLn 60 = 1 := rfl
theorem ln_61 : uvLn 61 = 1 := rfl
theorem ln_62 : uvLn 62 = 1 := rfl
theorem ln_64 : uvLn 64 = 1 := rfl
theorem ln_65 : uvLn 65 = 1 := rfl
theorem ln_66 : uvLn 66 = 1 := rfl
theorem ln_67 : uvLn 67 = 1 := rfl
theorem ln_68 : uvLn 68 = 1 := rfl
theorem ln_69 : uvLn 69 = 8 := rfl
theorem ln_71 : uvLn 71 = 40 := rfl
theorem ln_72 : uvLn 72 = 40 := rfl
theorem ln_73 : uvLn 73 = 40 := rfl
theorem ln_74 : uvLn 74 = 40 := rfl
theorem ln_75 : uvLn 75 = 40 := rfl
theorem ln_77 : uvLn 77 = 40 := rfl
theorem ln_78 : uvLn 78 = 40 := rfl
theorem ln_79 : uvLn 79 = 40 := rfl
theorem ln_80 : uvLn 80 = 40 := rfl
theorem ln_81 : uvLn 81 = 40 := rfl
theorem ln_83 : uvLn 83 = 40 := rfl
theorem ln_84 : uvLn 84 = 40 := rfl
theorem ln_85 : uvLn 85 = 40 := rfl
theorem ln_86 : uvLn 86 = 40 := rfl
theorem ln_87 : uvLn 87 = 40 := rfl
theorem ln_89 : uvLn 89 = 40 := rfl
theorem ln_90 : uvLn 90 = 40 := rfl
theorem ln_91 : uvLn 91 = 40 := rfl
theorem ln_92 : uvLn 92 = 40 := rfl
theorem ln_93 : uvLn 93 = 40 := rfl
theorem ln_95 : uvLn 95 = 40 := rfl
theorem ln_96 : uvLn 96 = 40 := rfl
theorem ln_97 : uvLn 97 = 40 := rfl
theorem ln_98 : uvLn 98 = 40 := rfl
theorem ln_99 : uvLn 99 = 40 := rfl
theorem ln_101 : uvLn 101 = 40 := rfl
theorem ln_102 : uvLn 102 = 40 := rfl
theorem ln_103 : uvLn 103 = 40 := rfl
theorem ln_104 : uvLn 104 = 40 := rfl
theorem ln_105 : uvLn 105 = 40 := rfl
theorem ln_107 : uvLn 107 = 40 := rfl
theorem ln_108 : uvLn 108 = 40 := rfl
theorem ln_109 : uvLn 109 = 40 := rfl
theorem ln_110 : uvLn 110 = 40 := rfl
theorem ln_111 : uvLn 111 = 40 := rfl
theorem ln_113 : uvLn 113 = 40 := rfl
theorem ln_114 : uvLn 114 = 40 := rfl
theorem ln_115 : uvLn 115 = 40 := rfl
theorem ln_116 : uvLn 116 = 40 := rfl
theorem ln_117 : uvLn 117 = 40 := rfl
theorem ln_119 : uvLn 119 = 240 := rfl
theorem ln_120 : uvLn 120 = 24 := rfl
theorem ln_121 : uvLn 121 = 6 := rfl
theorem ln_122 : uvLn 122 = 128 := rfl
theorem ln_123 : uvLn 123 = 128 := rfl
theorem ln_124 : uvLn 124 = 128 := rfl
theorem ln_125 : uvLn 125 = 128 := rfl
theorem ln_126 : uvLn 126 = 3 := rfl
theorem ln_127 : uvLn 127 = 120 := rfl
theorem ln_128 : uvLn 128 = 24 := rfl
theorem ln_129 : uvLn 129 = 128 := rfl
theorem ln_130 : uvLn 130 = 128 := rfl
theorem ln_131 : uvLn 131 = 128 := rfl
theorem ln_132 : uvLn 132 = 128 := rfl
theorem ln_133 : uvLn 133 = 8 := rfl
theorem ln_134 : uvLn 134 = 8 := rfl
theorem ln_135 : uvLn 135 = 320 := rfl
theorem ln_136 : uvLn 136 = 8 := rfl
theorem ln_137 : uvLn 137 = 320 := rfl
theorem ln_138 : uvLn 138 = 320 := rfl
theorem ln_139 : uvLn 139 = 320 := rfl
theorem ln_140 : uvLn 140 = 320 := rfl
theorem ln_141 : uvLn 141 = 8 := rfl
def sLen (w : Int) : Int := if w = 0 then 3 else 4
def sChr (w i : Int) : Int := if w = 0 then (if i = 0 then 114 else if i = 1 then 111 else 119) else (if i = 0 then 116 else if i = 1 then 114 else 101)
def f_J9_max_7cf53 (a0 a1 : Int) : Int := if wI a0 < wI a1 then a1 else a0
def f_J9_min_7cf53 (a0 a1 : Int) : Int := if wI a1 < wI a0 then a1 else a0
def f_J9_abs_0f7a4 (a0 : Int) : Int := if wI a0 < 0 then 0 - a0 else a0
