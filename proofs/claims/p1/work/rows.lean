section
def iV (x : Int) : Int32 := Int32.ofInt x
def lV (x : Int) : Int64 := Int64.ofInt x
def wI (x : Int) : Int := (iV x).toInt
def wL (x : Int) : Int := (lV x).toInt
abbrev St : Type := Int → Int → Int
def upS (σ : St) (o i x : Int) : St := fun o' i' => if o' = o ∧ i' = i then x else σ o' i'
theorem iV_wI (x : Int) : iV (wI x) = iV x := Int32.ofInt_toInt _
theorem iV_add (x y : Int) : iV x + iV y = iV (x + y) := (Int32.ofInt_add x y).symm
theorem iV_sub (x y : Int) : iV x - iV y = iV (x - y) := (Int32.ofInt_sub x y).symm
theorem iV_mul (x y : Int) : iV x * iV y = iV (x * y) := (Int32.ofInt_mul x y).symm
theorem lV_add (x y : Int) : lV x + lV y = lV (x + y) := (Int64.ofInt_add x y).symm
theorem lV_sub (x y : Int) : lV x - lV y = lV (x - y) := (Int64.ofInt_sub x y).symm
theorem lV_mul (x y : Int) : lV x * lV y = lV (x * y) := (Int64.ofInt_mul x y).symm
theorem iV_lt (x y : Int) : iV x < iV y ↔ wI x < wI y := Int32.lt_iff_toInt_lt
theorem iV_le (x y : Int) : iV x ≤ iV y ↔ wI x ≤ wI y := Int32.le_iff_toInt_le
theorem iV_eq (x y : Int) : iV x = iV y ↔ wI x = wI y := Int32.toInt_inj.symm
theorem lV_lt (x y : Int) : lV x < lV y ↔ wL x < wL y := Int64.lt_iff_toInt_lt
theorem lV_eq (x y : Int) : lV x = lV y ↔ wL x = wL y := Int64.toInt_inj.symm
theorem wI_id {x : Int} (h1 : -2147483648 ≤ x) (h2 : x ≤ 2147483647) : wI x = x := Int32.toInt_ofInt_of_le h1 (by omega)
theorem wL_id {x : Int} (h1 : -9223372036854775808 ≤ x) (h2 : x ≤ 9223372036854775807) : wL x = x := Int64.toInt_ofInt_of_le h1 (by omega)
theorem wI_rng (x : Int) : -2147483648 ≤ wI x ∧ wI x ≤ 2147483647 := by
  have h1 := Int32.le_toInt (iV x)
  have h2 := Int32.toInt_lt (iV x)
  unfold wI
  omega
theorem iV_clamp {i : Int} {n : Nat} (h : 0 ≤ i ∧ i < n) (hn : n < 2147483648) : (iV i).toNatClampNeg = i.toNat := by
  have := wI_id (x := i) (by omega) (by omega)
  show (iV i).toInt.toNat = i.toNat
  show (wI i).toNat = i.toNat
  rw [this]
theorem iV_in {i : Int} {n : Nat} (h : 0 ≤ i ∧ i < n) (hn : n < 2147483648) : vp_in (iV i) n := by
  rw [vp_in_iff]
  have := wI_id (x := i) (by omega) (by omega)
  show 0 ≤ wI i ∧ wI i < n
  rw [this]
  exact h
/-! other operations, by the machine's own -/
def shlI (x y : Int) : Int := (iV x <<< (iV y &&& 31)).toInt
def shrI (x y : Int) : Int := (iV x >>> (iV y &&& 31)).toInt
def andI (x y : Int) : Int := (iV x &&& iV y).toInt
def orI (x y : Int) : Int := (iV x ||| iV y).toInt
def divI (x y : Int) : Int := (iV x / iV y).toInt
def negI (x : Int) : Int := (-(iV x)).toInt
def divL (x y : Int) : Int := (lV x / lV y).toInt
def remL (x y : Int) : Int := (lV x - lV x / lV y * lV y).toInt
def andL (x y : Int) : Int := (lV x &&& lV y).toInt
def orL (x y : Int) : Int := (lV x ||| lV y).toInt
def shlL (x y : Int) : Int := (lV x <<< ((iV y).toInt64 &&& 63)).toInt
def ushrL (x y : Int) : Int := ((lV x).toUInt64 >>> ((iV y).toInt64.toUInt64 &&& Int64.toUInt64 63)).toInt64.toInt
def i2lI (x : Int) : Int := wI x
def cmpL (x y : Int) : Int := if wL y < wL x then 1 else if wL x = wL y then 0 else -1
def i2cI (x : Int) : Int := ((iV x).toUInt32 % 65536).toInt32.toInt
/-! the mirror's own words -/
def rdA {α : Type} (n : Nat) (σ : St) (o i : Int) (k : Int → Option α) : Option α := if 0 ≤ i ∧ i < n then k (σ o i) else none
def wrA {α : Type} (n : Nat) (σ : St) (o i x : Int) (k : St → Option α) : Option α := if 0 ≤ i ∧ i < n then k (upS σ o i x) else none
def wrF {α : Type} (σ : St) (o i x : Int) (k : St → α) : α := k (upS σ o i x)
def ixA {α : Type} (n : Nat) (i : Int) (k : Option α) : Option α := if 0 ≤ i ∧ i < n then k else none
def bd2 {α : Type} (a : Option (Int × St)) (k : Int → St → Option α) : Option α := match a with
  | some r => k r.1 r.2
  | none => none
def bd1 {α : Type} (a : Option Int) (k : Int → Option α) : Option α := match a with
  | some r => k r
  | none => none
def bnd {α : Type} (a : Int) (k : Int → α) : α := k a
theorem rdA_ex {α : Type} {n : Nat} {σ : St} {o i : Int} {k : Int → Option α} {r : α} (h : rdA n σ o i k = some r) : ∃ v, v = σ o i ∧ (0 ≤ i ∧ i < n) ∧ k v = some r := by
  unfold rdA at h
  by_cases c : 0 ≤ i ∧ i < n
  · rw [if_pos c] at h; exact ⟨_, rfl, c, h⟩
  · rw [if_neg c] at h; cases h
theorem wrA_ex {α : Type} {n : Nat} {σ : St} {o i x : Int} {k : St → Option α} {r : α} (h : wrA n σ o i x k = some r) : ∃ σ', σ' = upS σ o i x ∧ (0 ≤ i ∧ i < n) ∧ k σ' = some r := by
  unfold wrA at h
  by_cases c : 0 ≤ i ∧ i < n
  · rw [if_pos c] at h; exact ⟨_, rfl, c, h⟩
  · rw [if_neg c] at h; cases h
theorem ixA_ex {α : Type} {n : Nat} {i : Int} {k : Option α} {r : α} (h : ixA n i k = some r) : (0 ≤ i ∧ i < n) ∧ k = some r := by
  unfold ixA at h
  by_cases c : 0 ≤ i ∧ i < n
  · rw [if_pos c] at h; exact ⟨c, h⟩
  · rw [if_neg c] at h; cases h
theorem wrF_ex {α : Type} {σ : St} {o i x : Int} {k : St → α} {r : α} (h : wrF σ o i x k = r) : ∃ σ', σ' = upS σ o i x ∧ k σ' = r := ⟨_, rfl, h⟩
theorem bd2_ex {α : Type} {a : Option (Int × St)} {k : Int → St → Option α} {r : α} (h : bd2 a k = some r) : ∃ v σ', a = some (v, σ') ∧ k v σ' = some r := by
  cases a with
  | none => cases h
  | some q => exact ⟨q.1, q.2, rfl, h⟩
theorem bd1_ex {α : Type} {a : Option Int} {k : Int → Option α} {r : α} (h : bd1 a k = some r) : ∃ v, a = some v ∧ k v = some r := by
  cases a with
  | none => cases h
  | some q => exact ⟨q, rfl, h⟩
theorem bnd_ex {α : Type} {a : Int} {k : Int → α} {r : α} (h : bnd a k = r) : ∃ v, v = a ∧ k v = r := ⟨_, rfl, h⟩
theorem ite_t {α : Type} {c : Prop} {_ : Decidable c} {a b r : α} (hc : c) (h : (if c then a else b) = r) : a = r := by rw [if_pos hc] at h; exact h
theorem ite_f {α : Type} {c : Prop} {_ : Decidable c} {a b r : α} (hc : ¬ c) (h : (if c then a else b) = r) : b = r := by rw [if_neg hc] at h; exact h
theorem ite_some {α : Type} {c : Prop} {_ : Decidable c} {a : Option α} {r : α} (h : (if c then a else none) = some r) : c ∧ a = some r := by
  by_cases hc : c
  · rw [if_pos hc] at h; exact ⟨hc, h⟩
  · rw [if_neg hc] at h; cases h
theorem ite_10 {c : Prop} {_ : Decidable c} : (if c then (1 : Int) else 0) = 0 ∨ (if c then (1 : Int) else 0) = 1 := by
  by_cases h : c
  · right; rw [if_pos h]
  · left; rw [if_neg h]
theorem ite_01 {c : Prop} {_ : Decidable c} : (if c then (0 : Int) else 1) = 0 ∨ (if c then (0 : Int) else 1) = 1 := by
  by_cases h : c
  · left; rw [if_pos h]
  · right; rw [if_neg h]
def uvLn (o : Int) : Nat :=
  if o < 9 then 40 else if o = 9 then 4 else if o < 14 then 8 else if o < 23 then 120 else if o < 27 then 8 else if o < 34 then 120
  else if o = 34 then 6 else if o = 36 then 40 else if o = 37 then 8 else if o < 54 then 40 else if o = 56 then 8 else if o < 69 then 1
  else if o = 69 then 8 else if o < 118 then 40 else if o = 119 then 240 else if o = 120 then 24 else if o = 121 then 6 else if o < 126 then 128
  else if o = 126 then 3 else if o = 127 then 120 else if o = 128 then 24 else if o < 133 then 128 else if o < 135 then 8 else if o = 135 then 320
  else if o = 136 then 8 else if o < 141 then 320 else 8
theorem ln_2 : uvLn 2 = 40 := rfl
theorem ln_3 : uvLn 3 = 40 := rfl
theorem ln_4 : uvLn 4 = 40 := rfl
theorem ln_5 : uvLn 5 = 40 := rfl
theorem ln_6 : uvLn 6 = 40 := rfl
theorem ln_7 : uvLn 7 = 40 := rfl
theorem ln_8 : uvLn 8 = 40 := rfl
theorem ln_9 : uvLn 9 = 4 := rfl
theorem ln_11 : uvLn 11 = 8 := rfl
theorem ln_12 : uvLn 12 = 8 := rfl
theorem ln_13 : uvLn 13 = 8 := rfl
theorem ln_15 : uvLn 15 = 120 := rfl
theorem ln_16 : uvLn 16 = 120 := rfl
theorem ln_17 : uvLn 17 = 120 := rfl
theorem ln_18 : uvLn 18 = 120 := rfl
theorem ln_19 : uvLn 19 = 120 := rfl
theorem ln_20 : uvLn 20 = 120 := rfl
theorem ln_22 : uvLn 22 = 120 := rfl
theorem ln_24 : uvLn 24 = 8 := rfl
theorem ln_25 : uvLn 25 = 8 := rfl
theorem ln_26 : uvLn 26 = 8 := rfl
theorem ln_28 : uvLn 28 = 120 := rfl
theorem ln_29 : uvLn 29 = 120 := rfl
theorem ln_30 : uvLn 30 = 120 := rfl
theorem ln_31 : uvLn 31 = 120 := rfl
theorem ln_32 : uvLn 32 = 120 := rfl
theorem ln_33 : uvLn 33 = 120 := rfl
theorem ln_34 : uvLn 34 = 6 := rfl
theorem ln_36 : uvLn 36 = 40 := rfl
theorem ln_37 : uvLn 37 = 8 := rfl
theorem ln_39 : uvLn 39 = 40 := rfl
theorem ln_41 : uvLn 41 = 40 := rfl
theorem ln_43 : uvLn 43 = 40 := rfl
theorem ln_45 : uvLn 45 = 40 := rfl
theorem ln_47 : uvLn 47 = 40 := rfl
theorem ln_49 : uvLn 49 = 40 := rfl
theorem ln_51 : uvLn 51 = 40 := rfl
theorem ln_53 : uvLn 53 = 40 := rfl
theorem ln_56 : uvLn 56 = 8 := rfl
theorem ln_58 : uvLn 58 = 1 := rfl
theorem ln_59 : uvLn 59 = 1 := rfl
theorem ln_60 : uvLn 60 = 1 := rfl
theorem ln_61 : uvLn 61 = 1 := rfl
theorem ln_62 : uvLn 62 = 1 := rfl
theorem ln_64 : uvLn 64 = 1 := rfl
theorem ln_65 : uvLn 65 = 1 := rfl
theorem ln_66 : uvLn 66 = 1 := rfl
theorem ln_67 : uvLn 67 = 1 := rfl
theorem ln_68 : uvLn 68 = 1 := rfl
theorem ln_69 : uvLn 69 = 8 := rfl
theorem ln_71 : uvLn 71 = 40 := rfl
theorem ln_72 : uvLn 72 = 40 := rfl
theorem ln_73 : uvLn 73 = 40 := rfl
theorem ln_74 : uvLn 74 = 40 := rfl
theorem ln_75 : uvLn 75 = 40 := rfl
theorem ln_77 : uvLn 77 = 40 := rfl
theorem ln_78 : uvLn 78 = 40 := rfl
theorem ln_79 : uvLn 79 = 40 := rfl
theorem ln_80 : uvLn 80 = 40 := rfl
theorem ln_81 : uvLn 81 = 40 := rfl
theorem ln_83 : uvLn 83 = 40 := rfl
theorem ln_84 : uvLn 84 = 40 := rfl
theorem ln_85 : uvLn 85 = 40 := rfl
theorem ln_86 : uvLn 86 = 40 := rfl
theorem ln_87 : uvLn 87 = 40 := rfl
theorem ln_89 : uvLn 89 = 40 := rfl
theorem ln_90 : uvLn 90 = 40 := rfl
theorem ln_91 : uvLn 91 = 40 := rfl
theorem ln_92 : uvLn 92 = 40 := rfl
theorem ln_93 : uvLn 93 = 40 := rfl
theorem ln_95 : uvLn 95 = 40 := rfl
theorem ln_96 : uvLn 96 = 40 := rfl
theorem ln_97 : uvLn 97 = 40 := rfl
theorem ln_98 : uvLn 98 = 40 := rfl
theorem ln_99 : uvLn 99 = 40 := rfl
theorem ln_101 : uvLn 101 = 40 := rfl
theorem ln_102 : uvLn 102 = 40 := rfl
theorem ln_103 : uvLn 103 = 40 := rfl
theorem ln_104 : uvLn 104 = 40 := rfl
theorem ln_105 : uvLn 105 = 40 := rfl
theorem ln_107 : uvLn 107 = 40 := rfl
theorem ln_108 : uvLn 108 = 40 := rfl
theorem ln_109 : uvLn 109 = 40 := rfl
theorem ln_110 : uvLn 110 = 40 := rfl
theorem ln_111 : uvLn 111 = 40 := rfl
theorem ln_113 : uvLn 113 = 40 := rfl
theorem ln_114 : uvLn 114 = 40 := rfl
theorem ln_115 : uvLn 115 = 40 := rfl
theorem ln_116 : uvLn 116 = 40 := rfl
theorem ln_117 : uvLn 117 = 40 := rfl
theorem ln_119 : uvLn 119 = 240 := rfl
theorem ln_120 : uvLn 120 = 24 := rfl
theorem ln_121 : uvLn 121 = 6 := rfl
theorem ln_122 : uvLn 122 = 128 := rfl
theorem ln_123 : uvLn 123 = 128 := rfl
theorem ln_124 : uvLn 124 = 128 := rfl
theorem ln_125 : uvLn 125 = 128 := rfl
theorem ln_126 : uvLn 126 = 3 := rfl
theorem ln_127 : uvLn 127 = 120 := rfl
theorem ln_128 : uvLn 128 = 24 := rfl
theorem ln_129 : uvLn 129 = 128 := rfl
theorem ln_130 : uvLn 130 = 128 := rfl
theorem ln_131 : uvLn 131 = 128 := rfl
theorem ln_132 : uvLn 132 = 128 := rfl
theorem ln_133 : uvLn 133 = 8 := rfl
theorem ln_134 : uvLn 134 = 8 := rfl
theorem ln_135 : uvLn 135 = 320 := rfl
theorem ln_136 : uvLn 136 = 8 := rfl
theorem ln_137 : uvLn 137 = 320 := rfl
theorem ln_138 : uvLn 138 = 320 := rfl
theorem ln_139 : uvLn 139 = 320 := rfl
theorem ln_140 : uvLn 140 = 320 := rfl
theorem ln_141 : uvLn 141 = 8 := rfl
def sLen (w : Int) : Int := if w = 0 then 3 else 4
def sChr (w i : Int) : Int := if w = 0 then (if i = 0 then 114 else if i = 1 then 111 else 119) else (if i = 0 then 116 else if i = 1 then 114 else 101)
def f_J9_max_7cf53 (a0 a1 : Int) : Int := if wI a0 < wI a1 then a1 else a0
def f_J9_min_7cf53 (a0 a1 : Int) : Int := if wI a1 < wI a0 then a1 else a0
def f_J9_abs_0f7a4 (a0 : Int) : Int := if wI a0 < 0 then 0 - a0 else a0
end
section
def f_X4_leftOf (σ0 : St) (o : Int) (a1 : Int) : Option Int :=
if 0 < wI a1 then
  if wI a1 < wI (σ0 o 3) then
    rdA 8 σ0 (o + 1) (a1 - 1) fun v3 =>
    some v3
  else
    some 6
else
  some 6
def f_X4_rightOf (σ0 : St) (o : Int) (a1 : Int) : Option Int :=
if wI a1 < 0 then
  some 6
else
  if wI a1 < wI ((σ0 o 3) - 1) then
    rdA 8 σ0 (o + 1) (a1 + 1) fun v3 =>
    some v3
  else
    some 6
def f_X3_besidePart (σ0 : St) (a1 : Int) (a2 : Int) : Option Int :=
rdA 40 σ0 3 a1 fun v1 =>
bd1 (f_X4_leftOf σ0 10 a2) fun v2 =>
bnd (if wI v1 = wI v2 then 0 else 2) fun v4 =>
rdA 40 σ0 4 a1 fun v5 =>
bd1 (f_X4_rightOf σ0 10 a2) fun v6 =>
bnd (if wI v5 = wI v6 then 0 else 2) fun v8 =>
some (v4 + v8)
def f_X3_ofFit (σ0 : St) (a1 : Int) (a2 : Int) (a3 : Int) : Option Int :=
rdA 40 σ0 5 a2 fun v1 =>
rdA 8 σ0 12 a3 fun v2 =>
bnd (f_J9_abs_0f7a4 (v1 - v2)) fun v3 =>
rdA 40 σ0 6 a2 fun v4 =>
rdA 8 σ0 13 a3 fun v5 =>
bnd (v3 + (f_J9_abs_0f7a4 (v4 - v5))) fun v6 =>
if wI a1 = 1 then
  bd1 (f_X3_besidePart σ0 a2 a3) fun v8 =>
  some (v6 + v8)
else
  if wI a1 = 2 then
    some (v6 + v3)
  else
    if wI a1 = 3 then
      bd1 (f_X3_besidePart σ0 a2 a3) fun v11 =>
      some (2 * (v6 + v11))
    else
      if wI a1 = 4 then
        some (divI (v6 + v3) 2)
      else
        some v6
def f_X5_begin (σ : St) (o : Int) (a1 : Int) : Option (Int × St) :=
wrA (uvLn (o + 1)) σ (o + 1) a1 1000000 fun σ1 =>
wrA (uvLn (o + 2)) σ1 (o + 2) a1 1000000 fun σ2 =>
wrA (uvLn (o + 3)) σ2 (o + 3) a1 0 fun σ3 =>
wrA (uvLn (o + 4)) σ3 (o + 4) a1 0 fun σ4 =>
wrA (uvLn (o + 5)) σ4 (o + 5) a1 0 fun σ5 =>
some (0, σ5)
def f_X5_offer (σ : St) (o : Int) (a1 : Int) (a2 : Int) (a3 : Int) (a4 : Int) : Option (Int × St) :=
rdA (uvLn (a3 + 1)) σ (a3 + 1) a4 fun v1 =>
bnd (a2 + v1) fun v2 =>
rdA (uvLn (o + 3)) σ (o + 3) a1 fun v3 =>
rdA (uvLn (a3 + 3)) σ (a3 + 3) a4 fun v4 =>
wrA (uvLn (o + 3)) σ (o + 3) a1 (f_J9_max_7cf53 v3 (a2 + v4)) fun σ5 =>
rdA (uvLn (o + 1)) σ5 (o + 1) a1 fun v6 =>
if wI v2 < wI v6 then
  rdA (uvLn (o + 1)) σ5 (o + 1) a1 fun v8 =>
  rdA (uvLn (a3 + 2)) σ5 (a3 + 2) a4 fun v9 =>
  wrA (uvLn (o + 2)) σ5 (o + 2) a1 (f_J9_min_7cf53 v8 (a2 + v9)) fun σ10 =>
  wrA (uvLn (o + 1)) σ10 (o + 1) a1 v2 fun σ11 =>
  rdA (uvLn (a3 + 4)) σ11 (a3 + 4) a4 fun v12 =>
  wrA (uvLn (o + 4)) σ11 (o + 4) a1 v12 fun σ13 =>
  wrA (uvLn (o + 5)) σ13 (o + 5) a1 a4 fun σ14 =>
  some (0, σ14)
else
  rdA (uvLn (o + 2)) σ5 (o + 2) a1 fun v15 =>
  wrA (uvLn (o + 2)) σ5 (o + 2) a1 (f_J9_min_7cf53 v15 v2) fun σ16 =>
  rdA (uvLn (o + 1)) σ16 (o + 1) a1 fun v17 =>
  if wI v2 = wI v17 then
    rdA (uvLn (o + 4)) σ16 (o + 4) a1 fun v19 =>
    rdA (uvLn (a3 + 4)) σ16 (a3 + 4) a4 fun v20 =>
    wrA (uvLn (o + 4)) σ16 (o + 4) a1 (f_J9_min_7cf53 1000000000 (v19 + v20)) fun σ21 =>
    some (0, σ21)
  else
    some (0, σ16)
def f_X3_ofJoint (σ0 : St) (a1 : Int) (a2 : Int) : Option Int :=
rdA 40 σ0 8 a1 fun v1 =>
if wI v1 = wI a2 then
  some 0
else
  rdA 40 σ0 4 a1 fun v3 =>
  rdA 40 σ0 2 a2 fun v4 =>
  bnd (if wI v3 = wI v4 then 0 else 2) fun v6 =>
  rdA 40 σ0 3 a2 fun v7 =>
  rdA 40 σ0 2 a1 fun v8 =>
  bnd (if wI v7 = wI v8 then 0 else 2) fun v10 =>
  rdA 40 σ0 5 a1 fun v11 =>
  rdA 40 σ0 5 a2 fun v12 =>
  some (((3 + (f_J9_abs_0f7a4 (v11 - v12))) + v6) + v10)
def lp_X0_weighEntry_80 (x2 : Int) (x3 : Int) (x4 : Int) (x5 : Int) (x6 : Int) (kx : St → Option (Int × St)) : Nat → St → Int → Option (Int × St)
  | 0, _, _ => none
  | n + 1, σ, x7 =>
    if wI x7 < wI (σ x6 1) then
      rdA 40 σ (x6 + 1) x7 fun v10 =>
      bd1 (f_X3_ofJoint σ x4 v10) fun v11 =>
      ixA 8 x2 <|
      ixA 8 (x2 + 1) <|
      bd2 (f_X5_offer σ (70 + 6 * x2) x3 (x5 + v11) (70 + 6 * (x2 + 1)) x7) fun v14 σ15 =>
      lp_X0_weighEntry_80 x2 x3 x4 x5 x6 kx n σ15 (x7 + 1)
    else
      kx σ
def f_X0_weighEntry (σ : St) (a1 : Int) (a2 : Int) (a3 : Int) : Option (Int × St) :=
ixA 8 a2 <|
rdA 40 σ (38 + 2 * a2 + 1) a3 fun v2 =>
bd1 (f_X3_ofFit σ a1 v2 a2) fun v3 =>
ixA 8 a2 <|
bd2 (f_X5_begin σ (70 + 6 * a2) a3) fun v5 σ6 =>
if wI (a2 + 1) < wI (σ6 10 3) then
  ixA 8 (a2 + 1) <|
  lp_X0_weighEntry_80 a2 a3 v2 v3 (38 + 2 * (a2 + 1)) (fun σ16 =>
      some (0, σ16)) 1000 σ6 0
else
  ixA 8 a2 <|
  bd2 (f_X5_offer σ6 (70 + 6 * a2) a3 v3 63 0) fun v18 σ19 =>
  some (0, σ19)
def lp_X0_weigh_16 (x1 : Int) (x2 : Int) (kx : St → Option (Int × St)) : Nat → St → Int → Option (Int × St)
  | 0, _, _ => none
  | n + 1, σ, x3 =>
    ixA 8 x2 <|
    if wI x3 < wI (σ (38 + 2 * x2) 1) then
      bd2 (f_X0_weighEntry σ x1 x2 x3) fun v5 σ6 =>
      lp_X0_weigh_16 x1 x2 kx n σ6 (x3 + 1)
    else
      kx σ
def lp_X0_weigh_10 (x1 : Int) (kx : St → Option (Int × St)) : Nat → St → Int → Option (Int × St)
  | 0, _, _ => none
  | n + 1, σ, x2 =>
    if wI x2 < 0 then
      kx σ
    else
      lp_X0_weigh_16 x1 x2 (fun σ7 =>
          lp_X0_weigh_10 x1 kx n σ7 (x2 + (-1))) 1000 σ 0
def lp_X0_weigh_58 (kx : St → Option (Int × St)) : Nat → St → Int → Option (Int × St)
  | 0, _, _ => none
  | n + 1, σ, x2 =>
    ixA 8 0 <|
    if wI x2 < wI (σ (38 + 2 * 0) 1) then
      ixA 8 0 <|
      bd2 (f_X5_offer σ 57 0 0 (70 + 6 * 0) x2) fun v14 σ15 =>
      lp_X0_weigh_58 kx n σ15 (x2 + 1)
    else
      kx σ
def f_X0_weigh (σ : St) (a1 : Int) : Option (Int × St) :=
bnd ((σ 10 3) - 1) fun v1 =>
lp_X0_weigh_10 a1 (fun σ8 =>
    bd2 (f_X5_begin σ8 57 0) fun v9 σ10 =>
    lp_X0_weigh_58 (fun σ16 =>
        some (0, σ16)) 1000 σ10 0) 1000 σ v1
def lp_X0_trace_12 (kx : St → Option (Int × St)) : Nat → St → Int → Int → Option (Int × St)
  | 0, _, _, _ => none
  | n + 1, σ, x1, x2 =>
    if wI x2 < wI (σ 10 3) then
      ixA 8 x2 <|
      if wI x1 < wI (σ (38 + 2 * x2) 1) then
        ixA 8 x2 <|
        rdA 40 σ (38 + 2 * x2 + 1) x1 fun v6 =>
        wrA 8 σ 69 x2 v6 fun σ7 =>
        ixA 8 x2 <|
        rdA (uvLn (70 + 6 * x2 + 5)) σ7 (70 + 6 * x2 + 5) x1 fun v9 =>
        lp_X0_trace_12 kx n σ7 v9 (x2 + 1)
      else
        kx σ
    else
      kx σ
def f_X0_trace (σ : St)  : Option (Int × St) :=
rdA 1 σ 62 0 fun v1 =>
lp_X0_trace_12 (fun σ10 =>
    some (0, σ10)) 1000 σ v1 0
def f_X0_leastPrice (σ0 : St)  : Option Int :=
rdA 1 σ0 58 0 fun v1 =>
some v1
def f_X0_secondPrice (σ0 : St)  : Option Int :=
rdA 1 σ0 59 0 fun v1 =>
if wI v1 < 1000000 then
  rdA 1 σ0 59 0 fun v3 =>
  some v3
else
  some (-1)
def f_X0_mostPrice (σ0 : St)  : Option Int :=
rdA 1 σ0 60 0 fun v1 =>
some v1
def f_X0_waysOfLeast (σ0 : St)  : Option Int :=
rdA 1 σ0 61 0 fun v1 =>
some v1
def lp_X0_pathFollowers_4 (σ0 : St) (kx : Int → Option Int) : Nat → Int → Int → Option Int
  | 0, _, _ => none
  | n + 1, x2, x3 =>
    if wI x3 < wI (σ0 10 3) then
      rdA 8 σ0 69 (x3 - 1) fun v2 =>
      rdA 40 σ0 8 v2 fun v3 =>
      rdA 8 σ0 69 x3 fun v4 =>
      if wI v3 = wI v4 then
        lp_X0_pathFollowers_4 σ0 kx n (x2 + 1) (x3 + 1)
      else
        lp_X0_pathFollowers_4 σ0 kx n x2 (x3 + 1)
    else
      kx x2
def f_X0_pathFollowers (σ0 : St)  : Option Int :=
lp_X0_pathFollowers_4 σ0 (fun y6 =>
    some y6) 1000 0 1
def lp_X0_pathFits_4 (σ0 : St) (x1 : Int) (kx : Int → Option Int) : Nat → Int → Int → Option Int
  | 0, _, _ => none
  | n + 1, x2, x3 =>
    if wI x3 < wI (σ0 10 3) then
      rdA 8 σ0 69 x3 fun v2 =>
      bd1 (f_X3_ofFit σ0 x1 v2 x3) fun v3 =>
      bnd (x2 + v3) fun v4 =>
      lp_X0_pathFits_4 σ0 x1 kx n v4 (x3 + 1)
    else
      kx x2
def f_X0_pathFits (σ0 : St) (a1 : Int) : Option Int :=
lp_X0_pathFits_4 σ0 a1 (fun y5 =>
    some y5) 1000 0 0
def lp_X0_pathJoints_4 (σ0 : St) (kx : Int → Option Int) : Nat → Int → Int → Option Int
  | 0, _, _ => none
  | n + 1, x1, x2 =>
    if wI x2 < wI (σ0 10 3) then
      rdA 8 σ0 69 (x2 - 1) fun v2 =>
      rdA 8 σ0 69 x2 fun v3 =>
      bd1 (f_X3_ofJoint σ0 v2 v3) fun v4 =>
      bnd (x1 + v4) fun v5 =>
      lp_X0_pathJoints_4 σ0 kx n v5 (x2 + 1)
    else
      kx x1
def f_X0_pathJoints (σ0 : St)  : Option Int :=
lp_X0_pathJoints_4 σ0 (fun y6 =>
    some y6) 1000 0 1
def lp_X0_dearestPathJoint_4 (σ0 : St) (kx : Int → Option Int) : Nat → Int → Int → Option Int
  | 0, _, _ => none
  | n + 1, x1, x2 =>
    if wI x2 < wI (σ0 10 3) then
      rdA 8 σ0 69 (x2 - 1) fun v2 =>
      rdA 8 σ0 69 x2 fun v3 =>
      bd1 (f_X3_ofJoint σ0 v2 v3) fun v4 =>
      bnd (f_J9_max_7cf53 x1 v4) fun v5 =>
      lp_X0_dearestPathJoint_4 σ0 kx n v5 (x2 + 1)
    else
      kx x1
def f_X0_dearestPathJoint (σ0 : St)  : Option Int :=
lp_X0_dearestPathJoint_4 σ0 (fun y6 =>
    some y6) 1000 0 1
def f_X1_begin (σ : St) (o : Int) : Option (Int × St) :=
wrF σ o 1 0 fun σ1 =>
wrF σ1 o 2 0 fun σ2 =>
wrF σ2 o 3 0 fun σ3 =>
some (0, σ3)
def f_X1_add (σ : St) (o : Int) (a1 : Int) : Option (Int × St) :=
if wI (σ o 1) < 0 then
  some (0, σ)
else
  if wI (σ o 1) < 40 then
    wrA 40 σ (o + 1) (σ o 1) a1 fun σ3 =>
    wrF σ3 o 1 ((σ3 o 1) + 1) fun σ4 =>
    some (0, σ4)
  else
    some (0, σ)
def f_X1_miss (σ : St) (o : Int) : Option (Int × St) :=
wrF σ o 1 0 fun σ1 =>
wrF σ1 o 2 (-1) fun σ2 =>
some (0, σ2)
def f_X1_isMissing (σ0 : St) (o : Int) : Int :=
(if wI (σ0 o 2) = (-1) then 1 else 0)
def f_X7_saysYes (σ0 : St) (o : Int) (a1 : Int) (a2 : Int) (a3 : Int) (a4 : Int) (a5 : Int) : Option Int :=
rdA 120 σ0 (o + 1) a1 fun v1 =>
if wI v1 = 76 then
  rdA 120 σ0 (o + 2) a1 fun v3 =>
  some (if wI a2 = wI v3 then 1 else 0)
else
  if wI v1 = 80 then
    rdA 120 σ0 (o + 2) a1 fun v7 =>
    some (if wI v7 < wI a4 then 1 else 0)
  else
    if wI v1 = 82 then
      rdA 120 σ0 (o + 2) a1 fun v11 =>
      some (if wI a3 = wI v11 then 1 else 0)
    else
      rdA 120 σ0 (o + 2) a1 fun v14 =>
      some (if wI v14 < wI a5 then 1 else 0)
def f_X7_isNode (σ0 : St) (o : Int) (a1 : Int) : Int :=
(if wI a1 < 0 then 0 else (if wI a1 < wI (σ0 o 6) then 1 else 0))
def jn_X7_leafFor_56 (σ0 : St) (kb : Int → Int → Option Int) (o : Int) (x1 : Int) (x2 : Int) (x3 : Int) (x4 : Int) (x5 : Int) (x6 : Int) (t0 : Int) : Option Int :=
  if (f_X7_isNode σ0 o t0) = 0 then
    some x5
  else
    kb t0 (x6 + 1)
def lp_X7_leafFor_6 (σ0 : St) (o : Int) (x1 : Int) (x2 : Int) (x3 : Int) (x4 : Int) (kx : Int → Option Int) : Nat → Int → Int → Option Int
  | 0, _, _ => none
  | n + 1, x5, x6 =>
    if wI x6 < 7 then
      rdA 120 σ0 (o + 1) x5 fun v2 =>
      if wI v2 = 42 then
        kx x5
      else
        bd1 (f_X7_saysYes σ0 o x5 x1 x2 x3 x4) fun v4 =>
        if v4 = 0 then
          rdA 120 σ0 (o + 5) x5 fun v7 =>
          jn_X7_leafFor_56 σ0 (lp_X7_leafFor_6 σ0 o x1 x2 x3 x4 kx n) o x1 x2 x3 x4 x5 x6 v7
        else
          rdA 120 σ0 (o + 4) x5 fun v10 =>
          jn_X7_leafFor_56 σ0 (lp_X7_leafFor_6 σ0 o x1 x2 x3 x4 kx n) o x1 x2 x3 x4 x5 x6 v10
    else
      kx x5
def f_X7_leafFor (σ0 : St) (o : Int) (a1 : Int) (a2 : Int) (a3 : Int) (a4 : Int) : Option Int :=
lp_X7_leafFor_6 σ0 o a1 a2 a3 a4 (fun y11 =>
    some y11) 1000 0 0
def f_X2_leafOfUnit (σ0 : St) (a1 : Int) : Option Int :=
rdA 40 σ0 3 a1 fun v1 =>
rdA 40 σ0 4 a1 fun v2 =>
rdA 40 σ0 5 a1 fun v3 =>
rdA 40 σ0 6 a1 fun v4 =>
bd1 (f_X7_leafFor σ0 14 v1 v2 v3 v4) fun v5 =>
some v5
def f_X2_leafOfTarget (σ0 : St) (a1 : Int) : Option Int :=
bd1 (f_X4_leftOf σ0 10 a1) fun v1 =>
bd1 (f_X4_rightOf σ0 10 a1) fun v2 =>
rdA 8 σ0 12 a1 fun v3 =>
rdA 8 σ0 13 a1 fun v4 =>
bd1 (f_X7_leafFor σ0 14 v1 v2 v3 v4) fun v5 =>
some v5
def lp_X2_findLeaves_2 (kx : St → Option (Int × St)) : Nat → St → Int → Option (Int × St)
  | 0, _, _ => none
  | n + 1, σ, x1 =>
    if wI x1 < wI (σ 1 8) then
      bd1 (f_X2_leafOfUnit σ x1) fun v2 =>
      wrA 40 σ 36 x1 v2 fun σ3 =>
      lp_X2_findLeaves_2 kx n σ3 (x1 + 1)
    else
      kx σ
def f_X2_findLeaves (σ : St)  : Option (Int × St) :=
lp_X2_findLeaves_2 (fun σ4 =>
    some (0, σ4)) 1000 σ 0
def f_X7_nodeAbove (σ0 : St) (o : Int) (a1 : Int) : Option Int :=
if wI a1 < 0 then
  some (-1)
else
  if wI a1 < wI (σ0 o 6) then
    rdA 120 σ0 (o + 3) a1 fun v3 =>
    some v3
  else
    some (-1)
def lp_X7_liesUnder_5 (σ0 : St) (o : Int) (x2 : Int) (kx : Int → Option Int) : Nat → Int → Int → Option Int
  | 0, _, _ => none
  | n + 1, x3, x4 =>
    if wI x4 < 7 then
      if wI x3 = wI x2 then
        kx x3
      else
        if wI x3 = (-1) then
          kx x3
        else
          bd1 (f_X7_nodeAbove σ0 o x3) fun v4 =>
          lp_X7_liesUnder_5 σ0 o x2 kx n v4 (x4 + 1)
    else
      kx x3
def jn_X7_liesUnder_34 (σ0 : St) (x2 : Int) (x3 : Int) : Option Int :=
  some (if wI x3 = wI x2 then 1 else 0)
def f_X7_liesUnder (σ0 : St) (o : Int) (a1 : Int) (a2 : Int) : Option Int :=
lp_X7_liesUnder_5 σ0 o a2 (fun y5 =>
    jn_X7_liesUnder_34 σ0 a2 y5) 1000 a1 0
def lp_X2_gather_3 (x1 : Int) (x2 : Int) (x3 : Int) (x4 : Int) (kx : St → Option (Int × St)) : Nat → St → Int → Option (Int × St)
  | 0, _, _ => none
  | n + 1, σ, x5 =>
    if wI x5 < wI (σ 1 8) then
      if wI x5 = wI x4 then
        lp_X2_gather_3 x1 x2 x3 x4 kx n σ (x5 + 1)
      else
        rdA 40 σ 2 x5 fun v3 =>
        if wI v3 = wI x2 then
          rdA 40 σ 36 x5 fun v5 =>
          bd1 (f_X7_liesUnder σ 14 v5 x3) fun v6 =>
          if v6 = 0 then
            lp_X2_gather_3 x1 x2 x3 x4 kx n σ (x5 + 1)
          else
            bd2 (f_X1_add σ x1 x5) fun v9 σ10 =>
            lp_X2_gather_3 x1 x2 x3 x4 kx n σ10 (x5 + 1)
        else
          lp_X2_gather_3 x1 x2 x3 x4 kx n σ (x5 + 1)
    else
      kx σ
def f_X2_gather (σ : St) (a1 : Int) (a2 : Int) (a3 : Int) (a4 : Int) : Option (Int × St) :=
lp_X2_gather_3 a1 a2 a3 a4 (fun σ11 =>
    some (0, σ11)) 1000 σ 0
def lp_X2_climb_6 (x1 : Int) (x2 : Int) (x4 : Int) (kx : St → Option (Int × St)) : Nat → St → Int → Int → Option (Int × St)
  | 0, _, _, _ => none
  | n + 1, σ, x5, x6 =>
    if 7 < wI x6 then
      kx σ
    else
      bd2 (f_X2_gather σ x1 x2 x5 x4) fun v2 σ3 =>
      bd1 (f_X7_nodeAbove σ3 14 x5) fun v4 =>
      if 0 < wI (σ3 x1 1) then
        some (0, σ3)
      else
        if wI v4 = (-1) then
          some (0, σ3)
        else
          wrF σ3 x1 2 ((σ3 x1 2) + 1) fun σ7 =>
          lp_X2_climb_6 x1 x2 x4 kx n σ7 v4 (x6 + 1)
def f_X2_climb (σ : St) (a1 : Int) (a2 : Int) (a3 : Int) (a4 : Int) : Option (Int × St) :=
lp_X2_climb_6 a1 a2 a4 (fun σ8 =>
    some (0, σ8)) 1000 σ a3 0
def jn_X2_chooseFor_86 (kb : St → Int → Int → Int → Option (Int × St)) (σ : St) (x2 : Int) (x3 : Int) (x4 : Int) (x5 : Int) (x6 : Int) (x7 : Int) : Option (Int × St) :=
  bd2 (f_X2_climb σ x3 x5 x4 x2) fun v12 σ13 =>
  if 0 < wI (σ13 x3 1) then
    some (0, σ13)
  else
    rdA 6 σ13 34 x5 fun v15 =>
    kb σ13 v15 x6 (x7 + 1)
def lp_X2_chooseFor_35 (x2 : Int) (x3 : Int) (x4 : Int) (kx : St → Option (Int × St)) : Nat → St → Int → Int → Int → Option (Int × St)
  | 0, _, _, _, _ => none
  | n + 1, σ, x5, x6, x7 =>
    if wI x7 < 6 then
      if wI (andI x6 (shlI 1 x5)) = 0 then
        bnd (orI x6 (shlI 1 x5)) fun v8 =>
        wrF σ x3 3 ((σ x3 3) + 1) fun σ9 =>
        if 0 < wI x7 then
          wrF σ9 x3 2 ((σ9 x3 2) + 1) fun σ11 =>
          jn_X2_chooseFor_86 (lp_X2_chooseFor_35 x2 x3 x4 kx n) σ11 x2 x3 x4 x5 v8 x7
        else
          jn_X2_chooseFor_86 (lp_X2_chooseFor_35 x2 x3 x4 kx n) σ9 x2 x3 x4 x5 v8 x7
      else
        kx σ
    else
      kx σ
def f_X2_chooseFor (σ : St) (a1 : Int) (a2 : Int) : Option (Int × St) :=
ixA 8 a1 <|
bd2 (f_X1_begin σ (38 + 2 * a1)) fun v2 σ3 =>
bd1 (f_X2_leafOfTarget σ3 a1) fun v4 =>
rdA 8 σ3 11 a1 fun v5 =>
lp_X2_chooseFor_35 a2 (38 + 2 * a1) v4 (fun σ16 =>
    bd2 (f_X1_miss σ16 (38 + 2 * a1)) fun v17 σ18 =>
    some (0, σ18)) 1000 σ3 v5 0 0
def lp_X2_chooseAll_6 (x1 : Int) (kx : St → Option (Int × St)) : Nat → St → Int → Option (Int × St)
  | 0, _, _ => none
  | n + 1, σ, x2 =>
    if wI x2 < wI (σ 10 3) then
      bd2 (f_X2_chooseFor σ x2 x1) fun v4 σ5 =>
      ixA 8 x2 <|
      if (f_X1_isMissing σ5 (38 + 2 * x2)) = 0 then
        lp_X2_chooseAll_6 x1 kx n σ5 (x2 + 1)
      else
        some (0, σ5)
    else
      kx σ
def f_X2_chooseAll (σ : St) (a1 : Int) : Option (Int × St) :=
bd2 (f_X2_findLeaves σ) fun v1 σ2 =>
lp_X2_chooseAll_6 a1 (fun σ9 =>
    some ((if 0 < wI (σ9 10 3) then 1 else 0), σ9)) 1000 σ2 0
def f_X2_choose (σ : St) (a1 : Int) (a2 : Int) : Option (Int × St) :=
bd2 (f_X2_findLeaves σ) fun v1 σ2 =>
bd2 (f_X2_chooseFor σ2 a1 a2) fun v3 σ4 =>
ixA 8 a1 <|
some (38 + 2 * a1, σ4)
def f_X4_add (σ : St) (o : Int) (a1 : Int) (a2 : Int) (a3 : Int) : Option (Int × St) :=
if wI (σ o 3) < 0 then
  some (0, σ)
else
  if wI (σ o 3) < 8 then
    wrA 8 σ (o + 1) (σ o 3) a1 fun σ3 =>
    wrA 8 σ3 (o + 2) (σ3 o 3) a2 fun σ4 =>
    wrA 8 σ4 (o + 3) (σ4 o 3) a3 fun σ5 =>
    wrF σ5 o 3 ((σ5 o 3) + 1) fun σ6 =>
    some (0, σ6)
  else
    some (0, σ)
def lp_X4_become_7 (o : Int) (x1 : Int) (kx : St → Option (Int × St)) : Nat → St → Int → Option (Int × St)
  | 0, _, _ => none
  | n + 1, σ, x2 =>
    if wI x2 < 8 then
      if wI x2 < wI (σ x1 3) then
        rdA 8 σ (x1 + 1) x2 fun v4 =>
        rdA 8 σ (x1 + 2) x2 fun v5 =>
        rdA 8 σ (x1 + 3) x2 fun v6 =>
        bd2 (f_X4_add σ o v4 v5 v6) fun v7 σ8 =>
        lp_X4_become_7 o x1 kx n σ8 (x2 + 1)
      else
        kx σ
    else
      kx σ
def f_X4_become (σ : St) (o : Int) (a1 : Int) : Option (Int × St) :=
wrF σ o 3 0 fun σ1 =>
lp_X4_become_7 o a1 (fun σ9 =>
    some (0, σ9)) 1000 σ1 0
def f_X5_end (σ : St) (o : Int) (a1 : Int) : Option (Int × St) :=
bd2 (f_X5_begin σ o a1) fun v1 σ2 =>
wrA (uvLn (o + 1)) σ2 (o + 1) a1 0 fun σ3 =>
wrA (uvLn (o + 4)) σ3 (o + 4) a1 1 fun σ4 =>
some (0, σ4)
def f_X6_add (σ : St) (a1 : Int) : Option (Int × St) :=
if wI (σ 21 3) < 0 then
  some (0, σ)
else
  if wI (σ 21 3) < 120 then
    wrA 120 σ 22 (σ 21 3) a1 fun σ3 =>
    wrF σ3 21 3 ((σ3 21 3) + 1) fun σ4 =>
    some (0, σ4)
  else
    some (0, σ)
def f_X7_removeAll (σ : St) (o : Int) : Option (Int × St) :=
wrF σ o 6 0 fun σ1 =>
wrF σ1 o 7 0 fun σ2 =>
wrF σ2 o 8 0 fun σ3 =>
some (0, σ3)
def lp_X6_look_0 (kx : St → Option (Int × St)) : Nat → St → Option (Int × St)
  | 0, _ => none
  | n + 1, σ =>
    if wI (σ 21 5) < wI (σ 21 3) then
      rdA 120 σ 22 (σ 21 5) fun v2 =>
      if wI v2 = 32 then
        wrF σ 21 5 ((σ 21 5) + 1) fun σ4 =>
        lp_X6_look_0 kx n σ4
      else
        kx σ
    else
      kx σ
def jn_X6_look_38 (σ : St)  : Option (Int × St) :=
  if wI (σ 21 5) < wI (σ 21 3) then
    rdA 120 σ 22 (σ 21 5) fun v7 =>
    some (v7, σ)
  else
    some ((-1), σ)
def f_X6_look (σ : St)  : Option (Int × St) :=
lp_X6_look_0 (fun σ5 =>
    jn_X6_look_38 σ5) 1000 σ
def f_X6_fail (σ : St)  : Option (Int × St) :=
wrF σ 21 6 (σ 21 5) fun σ1 =>
some ((-1), σ1)
def lp_X6_readWord_7 (x1 : Int) (x2 : Int) (kx : St → Option (Int × St)) : Nat → St → Int → Option (Int × St)
  | 0, _, _ => none
  | n + 1, σ, x3 =>
    if wI x3 < wI (sLen x1) then
      if wI (σ 21 5) < wI (σ 21 3) then
        rdA 120 σ 22 (σ 21 5) fun v3 =>
        if 0 ≤ x3 ∧ x3 < sLen x1 then
          if wI v3 = wI (sChr x1 x3) then
            wrF σ 21 5 ((σ 21 5) + 1) fun σ6 =>
            lp_X6_readWord_7 x1 x2 kx n σ6 (x3 + 1)
          else
            wrF σ 21 5 x2 fun σ7 =>
            bd2 (f_X6_fail σ7) fun v8 σ9 =>
            some (0, σ9)
        else none
      else
        bd2 (f_X6_fail σ) fun v10 σ11 =>
        some (0, σ11)
    else
      kx σ
def f_X6_readWord (σ : St) (a1 : Int) : Option (Int × St) :=
lp_X6_readWord_7 a1 (σ 21 5) (fun σ12 =>
    some (1, σ12)) 1000 σ 0
def f_X9_within (a0 : Int) (a1 : Int) (a2 : Int) : Int :=
(if wI a0 < wI a1 then 0 else (if wI a2 < wI a0 then 0 else 1))
def f_X6_readFigure (σ : St) (a1 : Int) (a2 : Int) : Option (Int × St) :=
bd2 (f_X6_look σ) fun v1 σ2 =>
bnd (v1 - 48) fun v3 =>
if (f_X9_within v3 a1 a2) = 0 then
  bd2 (f_X6_fail σ2) fun v6 σ7 =>
  some (v6, σ7)
else
  wrF σ2 21 5 ((σ2 21 5) + 1) fun σ8 =>
  some (v3, σ8)
def f_X6_readTarget (σ : St) (a1 : Int) : Option (Int × St) :=
wrF σ 21 5 ((σ 21 5) + 1) fun σ1 =>
bd2 (f_X6_readFigure σ1 0 9) fun v2 σ3 =>
if wI (σ3 21 6) = (-1) then
  bd2 (f_X6_readFigure σ3 1 9) fun v5 σ6 =>
  if wI (σ6 21 6) = (-1) then
    bd2 (f_X4_add σ6 23 a1 v2 v5) fun v8 σ9 =>
    some (0, σ9)
  else
    some (0, σ6)
else
  some (0, σ3)
def jn_X6_readRow_42 (kb : St → Int → Option (Int × St)) (σ : St) (x1 : Int) (x2 : Int) : Option (Int × St) :=
  if (f_X9_within x2 97 102) = 0 then
    bd2 (f_X6_fail σ) fun v13 σ14 =>
    kb σ14 (x1 + 1)
  else
    bd2 (f_X6_readTarget σ (x2 - 97)) fun v15 σ16 =>
    kb σ16 (x1 + 1)
def lp_X6_readRow_12 (kx : St → Option (Int × St)) : Nat → St → Int → Option (Int × St)
  | 0, _, _ => none
  | n + 1, σ, x1 =>
    if wI x1 < 8 then
      if wI (σ 21 6) = (-1) then
        bd2 (f_X6_look σ) fun v7 σ8 =>
        if wI v7 = 59 then
          if 0 < wI x1 then
            some (0, σ8)
          else
            jn_X6_readRow_42 (lp_X6_readRow_12 kx n) σ8 x1 v7
        else
          jn_X6_readRow_42 (lp_X6_readRow_12 kx n) σ8 x1 v7
      else
        kx σ
    else
      kx σ
def f_X6_readRow (σ : St)  : Option (Int × St) :=
bd2 (f_X6_readWord σ 0) fun v1 σ2 =>
if v1 = 0 then
  some (0, σ2)
else
  lp_X6_readRow_12 (fun σ17 =>
      some (0, σ17)) 1000 σ2 0
def f_X7_addNode (σ : St) (o : Int) (a1 : Int) (a2 : Int) (a3 : Int) : Option (Int × St) :=
if wI (σ o 6) < 0 then
  some ((-1), σ)
else
  if wI (σ o 6) < 120 then
    bnd (σ o 6) fun v3 =>
    wrA 120 σ (o + 1) v3 a1 fun σ4 =>
    wrA 120 σ4 (o + 2) v3 a2 fun σ5 =>
    wrA 120 σ5 (o + 3) v3 a3 fun σ6 =>
    wrA 120 σ6 (o + 4) v3 (-1) fun σ7 =>
    wrA 120 σ7 (o + 5) v3 (-1) fun σ8 =>
    wrA 120 σ8 (o + 6) v3 (-1) fun σ9 =>
    wrF σ9 o 6 ((σ9 o 6) + 1) fun σ10 =>
    some (v3, σ10)
  else
    some ((-1), σ)
def f_X7_addLeaf (σ : St) (o : Int) (a1 : Int) : Option (Int × St) :=
bd2 (f_X7_addNode σ o 42 0 a1) fun v1 σ2 =>
if wI v1 = (-1) then
  some (v1, σ2)
else
  wrA 120 σ2 (o + 6) v1 (σ2 o 7) fun σ4 =>
  wrF σ4 o 7 ((σ4 o 7) + 1) fun σ5 =>
  some (v1, σ5)
def f_X6_isQuestion (a0 : Int) : Int :=
(if wI a0 = 76 then 1 else (if wI a0 = 82 then 1 else (if wI a0 = 80 then 1 else (if wI a0 = 68 then 1 else 0))))
def f_X7_addQuestion (σ : St) (o : Int) (a1 : Int) (a2 : Int) (a3 : Int) (a4 : Int) : Option (Int × St) :=
wrF σ o 8 (f_J9_max_7cf53 (σ o 8) a4) fun σ1 =>
bd2 (f_X7_addNode σ1 o a1 a2 a3) fun v2 σ3 =>
some (v2, σ3)
def f_X6_readSign (σ : St) (a1 : Int) : Option (Int × St) :=
bd2 (f_X6_look σ) fun v1 σ2 =>
if wI v1 = wI a1 then
  wrF σ2 21 5 ((σ2 21 5) + 1) fun σ4 =>
  some (1, σ4)
else
  bd2 (f_X6_fail σ2) fun v5 σ6 =>
  some (0, σ6)
def f_X7_putBranches (σ : St) (o : Int) (a1 : Int) (a2 : Int) (a3 : Int) : Option (Int × St) :=
if (f_X7_isNode σ o a1) = 0 then
  some (0, σ)
else
  wrA 120 σ (o + 4) a1 a2 fun σ3 =>
  wrA 120 σ3 (o + 5) a1 a3 fun σ4 =>
  some (0, σ4)
def f_X6_readBranches (rn : St → Int → Int → Option (Int × St)) (σ : St) (a1 : Int) (a2 : Int) : Option (Int × St) :=
bd2 (f_X6_readSign σ 40) fun v1 σ2 =>
if v1 = 0 then
  some ((-1), σ2)
else
  bd2 (rn σ2 a1 a2) fun v5 σ6 =>
  if wI (σ6 21 6) = (-1) then
    bd2 (rn σ6 a1 a2) fun v8 σ9 =>
    if wI (σ9 21 6) = (-1) then
      bd2 (f_X6_readSign σ9 41) fun v11 σ12 =>
      if v11 = 0 then
        some ((-1), σ12)
      else
        bd2 (f_X7_putBranches σ12 27 a1 v5 v8) fun v15 σ16 =>
        some (a1, σ16)
    else
      some ((-1), σ9)
  else
    some ((-1), σ6)
def f_X6_readNode : Nat → St → Int → Int → Option (Int × St)
  | 0, _, _, _ => none
  | d + 1, σ, a1, a2 =>
    bd2 (f_X6_look σ) fun v1 σ2 =>
    if wI v1 = 42 then
      wrF σ2 21 5 ((σ2 21 5) + 1) fun σ4 =>
      bd2 (f_X7_addLeaf σ4 27 a1) fun v5 σ6 =>
      some (v5, σ6)
    else
      if (f_X6_isQuestion v1) = 0 then
        bd2 (f_X6_fail σ2) fun v9 σ10 =>
        some (v9, σ10)
      else
        if wI a2 < 7 then
          wrF σ2 21 5 ((σ2 21 5) + 1) fun σ12 =>
          bd2 (f_X6_readFigure σ12 0 (if wI v1 = 76 then 6 else (if wI v1 = 82 then 6 else 9))) fun v14 σ15 =>
          if wI (σ15 21 6) = (-1) then
            bd2 (f_X7_addQuestion σ15 27 v1 v14 a1 (a2 + 1)) fun v17 σ18 =>
            bd2 (f_X6_readBranches (f_X6_readNode d) σ18 v17 (a2 + 1)) fun v19 σ20 =>
            some (v19, σ20)
          else
            some ((-1), σ15)
        else
          bd2 (f_X6_fail σ2) fun v23 σ24 =>
          some (v23, σ24)
def f_X6_readTree (σ : St)  : Option (Int × St) :=
bd2 (f_X6_readWord σ 1) fun v1 σ2 =>
if v1 = 0 then
  some (0, σ2)
else
  bd2 (f_X6_readNode 9 σ2 (-1) 0) fun v5 σ6 =>
  some (0, σ6)
def f_X6_readEnd (σ : St)  : Option (Int × St) :=
bd2 (f_X6_readSign σ 59) fun v1 σ2 =>
if v1 = 0 then
  some (0, σ2)
else
  bd2 (f_X6_look σ2) fun v5 σ6 =>
  if wI v5 = (-1) then
    some (0, σ6)
  else
    bd2 (f_X6_fail σ6) fun v8 σ9 =>
    some (0, σ9)
def jn_X6_read_76 (σ : St)  : Option (Int × St) :=
  if wI (σ 21 6) = (-1) then
    bd2 (f_X6_readEnd σ) fun v14 σ15 =>
    some (σ15 21 6, σ15)
  else
    some (σ 21 6, σ)
def f_X6_read (σ : St)  : Option (Int × St) :=
wrF σ 21 5 0 fun σ1 =>
wrF σ1 21 6 (-1) fun σ2 =>
wrF σ2 23 3 0 fun σ3 =>
bd2 (f_X7_removeAll σ3 27) fun v4 σ5 =>
bd2 (f_X6_look σ5) fun v6 σ7 =>
wrF σ7 21 4 (if wI v6 = 114 then 1 else 0) fun σ9 =>
if wI v6 = 114 then
  bd2 (f_X6_readRow σ9) fun v11 σ12 =>
  jn_X6_read_76 σ12
else
  if wI v6 = 116 then
    bd2 (f_X6_readTree σ9) fun v17 σ18 =>
    jn_X6_read_76 σ18
  else
    bd2 (f_X6_fail σ9) fun v19 σ20 =>
    jn_X6_read_76 σ20
def lp_X7_become_26 (o : Int) (x1 : Int) (kx : St → Option (Int × St)) : Nat → St → Int → Option (Int × St)
  | 0, _, _ => none
  | n + 1, σ, x2 =>
    if wI x2 < 120 then
      if wI x2 < wI (σ o 6) then
        rdA 120 σ (x1 + 1) x2 fun v6 =>
        wrA 120 σ (o + 1) x2 v6 fun σ7 =>
        rdA 120 σ7 (x1 + 2) x2 fun v8 =>
        wrA 120 σ7 (o + 2) x2 v8 fun σ9 =>
        rdA 120 σ9 (x1 + 3) x2 fun v10 =>
        wrA 120 σ9 (o + 3) x2 v10 fun σ11 =>
        rdA 120 σ11 (x1 + 4) x2 fun v12 =>
        wrA 120 σ11 (o + 4) x2 v12 fun σ13 =>
        rdA 120 σ13 (x1 + 5) x2 fun v14 =>
        wrA 120 σ13 (o + 5) x2 v14 fun σ15 =>
        rdA 120 σ15 (x1 + 6) x2 fun v16 =>
        wrA 120 σ15 (o + 6) x2 v16 fun σ17 =>
        lp_X7_become_26 o x1 kx n σ17 (x2 + 1)
      else
        kx σ
    else
      kx σ
def f_X7_become (σ : St) (o : Int) (a1 : Int) : Option (Int × St) :=
wrF σ o 6 (σ a1 6) fun σ1 =>
wrF σ1 o 7 (σ1 a1 7) fun σ2 =>
wrF σ2 o 8 (σ2 a1 8) fun σ3 =>
lp_X7_become_26 o a1 (fun σ18 =>
    some (0, σ18)) 1000 σ3 0
def f_X7_numberOf (σ0 : St) (o : Int) (a1 : Int) : Option Int :=
if (f_X7_isNode σ0 o a1) = 0 then
  some (-1)
else
  rdA 120 σ0 (o + 6) a1 fun v3 =>
  some v3
def lp_X8_removeAll_7 (kx : St → Option (Int × St)) : Nat → St → Int → Option (Int × St)
  | 0, _, _ => none
  | n + 1, σ, x1 =>
    if wI x1 < 4 then
      wrA 4 σ 9 x1 (-1) fun σ3 =>
      lp_X8_removeAll_7 kx n σ3 (x1 + 1)
    else
      kx σ
def f_X8_removeAll (σ : St)  : Option (Int × St) :=
wrF σ 1 8 0 fun σ1 =>
lp_X8_removeAll_7 (fun σ4 =>
    some (0, σ4)) 1000 σ1 0
def f_X9_isTake (a0 : Int) : Int :=
(f_X9_within a0 0 3)
def jn_X8_add_121 (σ : St) (x6 : Int) (x7 : Int) : Option (Int × St) :=
  wrA 4 σ 9 x6 x7 fun σ14 =>
  wrF σ14 1 8 ((σ14 1 8) + 1) fun σ15 =>
  some (x7, σ15)
def f_X8_add (σ : St) (a1 : Int) (a2 : Int) (a3 : Int) (a4 : Int) (a5 : Int) (a6 : Int) : Option (Int × St) :=
if wI (σ 1 8) < 0 then
  some ((-1), σ)
else
  if wI (σ 1 8) < 40 then
    if (f_X9_isTake a6) = 0 then
      some ((-1), σ)
    else
      wrA 40 σ 2 (σ 1 8) a1 fun σ5 =>
      wrA 40 σ5 3 (σ 1 8) a2 fun σ6 =>
      wrA 40 σ6 4 (σ 1 8) a3 fun σ7 =>
      wrA 40 σ7 5 (σ 1 8) a4 fun σ8 =>
      wrA 40 σ8 6 (σ 1 8) a5 fun σ9 =>
      wrA 40 σ9 7 (σ 1 8) a6 fun σ10 =>
      wrA 40 σ10 8 (σ 1 8) (-1) fun σ11 =>
      rdA 4 σ11 9 a6 fun v12 =>
      if wI v12 < 0 then
        jn_X8_add_121 σ11 a6 (σ 1 8)
      else
        if wI v12 < wI (σ 1 8) then
          wrA 40 σ11 8 v12 (σ 1 8) fun σ17 =>
          jn_X8_add_121 σ17 a6 (σ 1 8)
        else
          jn_X8_add_121 σ11 a6 (σ 1 8)
  else
    some ((-1), σ)
def f_X8_putRight (σ : St) (a1 : Int) (a2 : Int) : Option (Int × St) :=
if wI a1 < 0 then
  some (0, σ)
else
  if wI a1 < wI (σ 1 8) then
    wrA 40 σ 4 a1 a2 fun σ3 =>
    some (0, σ3)
  else
    some (0, σ)
def f_X9_isSound (a0 : Int) : Int :=
(f_X9_within a0 0 5)
def f_X9_bad (σ : St)  : Option (Int × St) :=
wrF σ 0 9 ((σ 0 9) + 1) fun σ1 =>
some ((-2), σ1)
def f_X9_full (σ : St)  : Option (Int × St) :=
wrF σ 0 11 ((σ 0 11) + 1) fun σ1 =>
some ((-4), σ1)
def f_X9_unit (σ : St) (a1 : Int) (a2 : Int) (a3 : Int) (a4 : Int) (a5 : Int) (a6 : Int) : Option (Int × St) :=
if (f_X9_isSound a1) = 0 then
  bd2 (f_X9_bad σ) fun v3 σ4 =>
  some (v3, σ4)
else
  if (f_X9_within a2 0 6) = 0 then
    bd2 (f_X9_bad σ) fun v7 σ8 =>
    some (v7, σ8)
  else
    if (f_X9_within a3 0 6) = 0 then
      bd2 (f_X9_bad σ) fun v11 σ12 =>
      some (v11, σ12)
    else
      if (f_X9_within a4 0 9) = 0 then
        bd2 (f_X9_bad σ) fun v15 σ16 =>
        some (v15, σ16)
      else
        if (f_X9_within a5 1 9) = 0 then
          bd2 (f_X9_bad σ) fun v19 σ20 =>
          some (v19, σ20)
        else
          if (f_X9_isTake a6) = 0 then
            bd2 (f_X9_bad σ) fun v23 σ24 =>
            some (v23, σ24)
          else
            if wI (σ 1 8) < 40 then
              bd2 (f_X8_add σ a1 a2 a3 a4 a5 a6) fun v26 σ27 =>
              some (v26, σ27)
            else
              bd2 (f_X9_full σ) fun v28 σ29 =>
              some (v28, σ29)
def lp_X9_records_62 (x2 : Int) (x3 : Int) (kx : St → Option (Int × St)) : Nat → St → Int → Int → Int → Option (Int × St)
  | 0, _, _, _, _ => none
  | n + 1, σ, x4, x6, x7 =>
    if wI x7 < wI x2 then
      bnd (remL ((x4 * 1103515245) + 12345) 2147483648) fun v18 =>
      bnd (remL (divL v18 65536) 6) fun v19 =>
      bnd (remL (divL v18 4096) 10) fun v20 =>
      bnd ((remL (divL v18 1024) 9) + 1) fun v21 =>
      bd2 (f_X8_add σ v19 x6 6 v20 v21 x3) fun v22 σ23 =>
      if 0 < wI x7 then
        bd2 (f_X8_putRight σ23 (v22 - 1) v19) fun v25 σ26 =>
        lp_X9_records_62 x2 x3 kx n σ26 v18 v19 (x7 + 1)
      else
        lp_X9_records_62 x2 x3 kx n σ23 v18 v19 (x7 + 1)
    else
      kx σ
def f_X9_records (σ : St) (a1 : Int) (a2 : Int) (a3 : Int) : Option (Int × St) :=
if (f_X9_within a1 0 999999) = 0 then
  bd2 (f_X9_bad σ) fun v3 σ4 =>
  some (v3, σ4)
else
  if (f_X9_within a2 1 9) = 0 then
    bd2 (f_X9_bad σ) fun v7 σ8 =>
    some (v7, σ8)
  else
    if (f_X9_isTake a3) = 0 then
      bd2 (f_X9_bad σ) fun v11 σ12 =>
      some (v11, σ12)
    else
      if 40 < wI ((σ 1 8) + a2) then
        bd2 (f_X9_full σ) fun v14 σ15 =>
        some (v14, σ15)
      else
        bnd (i2lI a1) fun v16 =>
        lp_X9_records_62 a2 a3 (fun σ27 =>
            some (σ27 1 8, σ27)) 1000 σ v16 6 0
def f_X9_isUnit (σ0 : St) (a1 : Int) : Int :=
(if wI a1 < 0 then 0 else (if wI a1 < wI (σ0 1 8) then 1 else 0))
def f_X9_of (σ : St) (a1 : Int) (a2 : Int) : Option (Int × St) :=
if (f_X9_isUnit σ a1) = 0 then
  bd2 (f_X9_bad σ) fun v3 σ4 =>
  some (v3, σ4)
else
  if wI a2 = 0 then
    rdA 40 σ 2 a1 fun v6 =>
    some (v6, σ)
  else
    if wI a2 = 1 then
      rdA 40 σ 3 a1 fun v8 =>
      some (v8, σ)
    else
      if wI a2 = 2 then
        rdA 40 σ 4 a1 fun v10 =>
        some (v10, σ)
      else
        if wI a2 = 3 then
          rdA 40 σ 5 a1 fun v12 =>
          some (v12, σ)
        else
          if wI a2 = 4 then
            rdA 40 σ 6 a1 fun v14 =>
            some (v14, σ)
          else
            if wI a2 = 5 then
              rdA 40 σ 7 a1 fun v16 =>
              some (v16, σ)
            else
              if wI a2 = 6 then
                rdA 40 σ 8 a1 fun v18 =>
                some (v18, σ)
              else
                bd2 (f_X9_bad σ) fun v19 σ20 =>
                some (v19, σ20)
def f_X9_empties (σ : St)  : Option (Int × St) :=
bd2 (f_X8_removeAll σ) fun v1 σ2 =>
some (σ 1 8, σ2)
def f_X9_other (σ : St) (a1 : Int) (a2 : Int) : Option (Int × St) :=
if (f_X9_isSound a1) = 0 then
  bd2 (f_X9_bad σ) fun v3 σ4 =>
  some (v3, σ4)
else
  if (f_X9_isSound a2) = 0 then
    bd2 (f_X9_bad σ) fun v7 σ8 =>
    some (v7, σ8)
  else
    rdA 6 σ 34 a1 fun v9 =>
    wrA 6 σ 34 a1 a2 fun σ10 =>
    some (v9, σ10)
def f_X9_fitter (σ : St) (a1 : Int) : Option (Int × St) :=
if (f_X9_within a1 0 4) = 0 then
  bd2 (f_X9_bad σ) fun v3 σ4 =>
  some (v3, σ4)
else
  wrF σ 0 8 a1 fun σ5 =>
  some (σ 0 8, σ5)
def f_X9_type (σ : St) (a1 : Int) : Option (Int × St) :=
if (f_X9_within a1 0 127) = 0 then
  bd2 (f_X9_bad σ) fun v3 σ4 =>
  some (v3, σ4)
else
  if wI (σ 21 3) < 120 then
    bd2 (f_X6_add σ a1) fun v6 σ7 =>
    some (σ7 21 3, σ7)
  else
    bd2 (f_X9_full σ) fun v8 σ9 =>
    some (v8, σ9)
def f_X9_clear (σ : St)  : Option (Int × St) :=
wrF σ 21 3 0 fun σ1 =>
some (σ 21 3, σ1)
def f_X9_reads (σ : St)  : Option (Int × St) :=
bd2 (f_X6_read σ) fun v1 σ2 =>
if wI v1 = (-1) then
  if wI (σ2 21 4) = 0 then
    bd2 (f_X7_become σ2 14 27) fun v5 σ6 =>
    some (σ6 14 7, σ6)
  else
    bd2 (f_X4_become σ2 10 23) fun v7 σ8 =>
    some (σ8 10 3, σ8)
else
  some ((-10) - v1, σ2)
def f_X9_isTarget (σ0 : St) (a1 : Int) : Int :=
(if wI a1 < 0 then 0 else (if wI a1 < wI (σ0 10 3) then 1 else 0))
def f_X9_target (σ : St) (a1 : Int) (a2 : Int) : Option (Int × St) :=
if (f_X9_isTarget σ a1) = 0 then
  bd2 (f_X9_bad σ) fun v3 σ4 =>
  some (v3, σ4)
else
  if wI a2 = 0 then
    rdA 8 σ 11 a1 fun v6 =>
    some (v6, σ)
  else
    if wI a2 = 1 then
      rdA 8 σ 12 a1 fun v8 =>
      some (v8, σ)
    else
      if wI a2 = 2 then
        rdA 8 σ 13 a1 fun v10 =>
        some (v10, σ)
      else
        if wI a2 = 3 then
          bd1 (f_X4_leftOf σ 10 a1) fun v12 =>
          some (v12, σ)
        else
          if wI a2 = 4 then
            bd1 (f_X4_rightOf σ 10 a1) fun v14 =>
            some (v14, σ)
          else
            bd2 (f_X9_bad σ) fun v15 σ16 =>
            some (v15, σ16)
def f_J13_bitCount_95d88 (a0 : Int) : Int :=
bnd (a0 - (andL (ushrL a0 1) 6148914691236517205)) fun v1 =>
bnd ((andL v1 3689348814741910323) + (andL (ushrL v1 2) 3689348814741910323)) fun v2 =>
bnd (andL (v2 + (ushrL v2 4)) 1085102592571150095) fun v3 =>
bnd (v3 + (ushrL v3 8)) fun v4 =>
bnd (v4 + (ushrL v4 16)) fun v5 =>
bnd (v5 + (ushrL v5 32)) fun v6 =>
andI v6 127
def lp_X9_emptyLeaves_4 (σ0 : St) (kx : Int → Option Int) : Nat → Int → Int → Option Int
  | 0, _, _ => none
  | n + 1, x1, x3 =>
    if wI x3 < wI (σ0 1 8) then
      bd1 (f_X2_leafOfUnit σ0 x3) fun v2 =>
      bd1 (f_X7_numberOf σ0 14 v2) fun v3 =>
      bnd (orL x1 (shlL 1 v3)) fun v4 =>
      lp_X9_emptyLeaves_4 σ0 kx n v4 (x3 + 1)
    else
      kx x1
def f_X9_emptyLeaves (σ0 : St)  : Option Int :=
lp_X9_emptyLeaves_4 σ0 (fun y5 =>
    some ((σ0 14 7) - (f_J13_bitCount_95d88 y5))) 1000 0 0
def f_X9_tree (σ : St) (a1 : Int) : Option (Int × St) :=
if wI a1 = 0 then
  some (σ 14 7, σ)
else
  if wI a1 = 1 then
    some (σ 14 8, σ)
  else
    if wI a1 = 2 then
      bd1 (f_X9_emptyLeaves σ) fun v4 =>
      some (v4, σ)
    else
      bd2 (f_X9_bad σ) fun v5 σ6 =>
      some (v5, σ6)
def jn_X9_leaf_28 (σ : St) (x1 : Int) (x2 : Int) : Option (Int × St) :=
  if wI x1 = 1 then
    if (f_X9_isTarget σ x2) = 0 then
      bd2 (f_X9_bad σ) fun v7 σ8 =>
      some (v7, σ8)
    else
      bd1 (f_X2_leafOfTarget σ x2) fun v9 =>
      bd1 (f_X7_numberOf σ 14 v9) fun v10 =>
      some (v10, σ)
  else
    bd2 (f_X9_bad σ) fun v11 σ12 =>
    some (v11, σ12)
def f_X9_leaf (σ : St) (a1 : Int) (a2 : Int) : Option (Int × St) :=
if wI a1 = 0 then
  if (f_X9_isUnit σ a2) = 0 then
    jn_X9_leaf_28 σ a1 a2
  else
    bd1 (f_X2_leafOfUnit σ a2) fun v13 =>
    bd1 (f_X7_numberOf σ 14 v13) fun v14 =>
    some (v14, σ)
else
  jn_X9_leaf_28 σ a1 a2
def f_X9_isPlace (σ0 : St) (a1 : Int) : Int :=
if wI (σ0 10 3) = 0 then
  (f_X9_within a1 0 7)
else
  (f_X9_isTarget σ0 a1)
def f_X9_no (σ : St)  : Option (Int × St) :=
wrF σ 0 10 ((σ 0 10) + 1) fun σ1 =>
some ((-3), σ1)
def f_X9_choice (σ : St) (a1 : Int) (a2 : Int) : Option (Int × St) :=
if (f_X9_isPlace σ a1) = 0 then
  wrF σ 0 9 ((σ 0 9) + 1) fun σ3 =>
  some ((-10), σ3)
else
  if wI a2 < (-1) then
    wrF σ 0 9 ((σ 0 9) + 1) fun σ5 =>
    some ((-10), σ5)
  else
    if wI (σ 10 3) = 0 then
      bd2 (f_X9_no σ) fun v7 σ8 =>
      some (v7, σ8)
    else
      bd2 (f_X2_choose σ a1 (-1)) fun v9 σ10 =>
      if (f_X1_isMissing σ10 v9) = 0 then
        if wI a2 = (-1) then
          some (σ10 v9 1, σ10)
        else
          if wI a2 < wI (σ10 v9 1) then
            rdA 40 σ10 (v9 + 1) a2 fun v16 =>
            some (v16, σ10)
          else
            some ((-5), σ10)
      else
        bd2 (f_X9_no σ10) fun v17 σ18 =>
        some (v17, σ18)
def f_X9_steps (σ : St) (a1 : Int) : Option (Int × St) :=
if (f_X9_isTarget σ a1) = 0 then
  bd2 (f_X9_bad σ) fun v3 σ4 =>
  some (v3, σ4)
else
  bd2 (f_X2_choose σ a1 (-1)) fun v5 σ6 =>
  some (σ6 v5 2, σ6)
def f_X9_tried (σ : St) (a1 : Int) : Option (Int × St) :=
if (f_X9_isTarget σ a1) = 0 then
  bd2 (f_X9_bad σ) fun v3 σ4 =>
  some (v3, σ4)
else
  bd2 (f_X2_choose σ a1 (-1)) fun v5 σ6 =>
  some (σ6 v5 3, σ6)
def f_X9_fit (σ : St) (a1 : Int) (a2 : Int) : Option (Int × St) :=
if (f_X9_isUnit σ a1) = 0 then
  bd2 (f_X9_bad σ) fun v3 σ4 =>
  some (v3, σ4)
else
  if (f_X9_isTarget σ a2) = 0 then
    bd2 (f_X9_bad σ) fun v7 σ8 =>
    some (v7, σ8)
  else
    bd1 (f_X3_ofFit σ (σ 0 8) a1 a2) fun v9 =>
    some (v9, σ)
def f_X9_joint (σ : St) (a1 : Int) (a2 : Int) : Option (Int × St) :=
if (f_X9_isUnit σ a1) = 0 then
  bd2 (f_X9_bad σ) fun v3 σ4 =>
  some (v3, σ4)
else
  if (f_X9_isUnit σ a2) = 0 then
    bd2 (f_X9_bad σ) fun v7 σ8 =>
    some (v7, σ8)
  else
    bd1 (f_X3_ofJoint σ a1 a2) fun v9 =>
    some (v9, σ)
def f_X9_findChain (σ : St) (a1 : Int) : Option (Int × St) :=
bd2 (f_X2_chooseAll σ a1) fun v1 σ2 =>
if v1 = 0 then
  some (0, σ2)
else
  bd2 (f_X0_weigh σ2 (σ2 0 8)) fun v5 σ6 =>
  bd2 (f_X0_trace σ6) fun v7 σ8 =>
  some (1, σ8)
def f_X9_cost (σ : St)  : Option (Int × St) :=
bd2 (f_X9_findChain σ (-1)) fun v1 σ2 =>
if v1 = 0 then
  bd2 (f_X9_no σ2) fun v5 σ6 =>
  some (v5, σ6)
else
  bd1 (f_X0_leastPrice σ2) fun v7 =>
  some (v7, σ2)
def f_X9_chain (σ : St) (a1 : Int) : Option (Int × St) :=
if (f_X9_isPlace σ a1) = 0 then
  bd2 (f_X9_bad σ) fun v3 σ4 =>
  some (v3, σ4)
else
  bd2 (f_X9_findChain σ (-1)) fun v5 σ6 =>
  if v5 = 0 then
    bd2 (f_X9_no σ6) fun v9 σ10 =>
    some (v9, σ10)
  else
    rdA 8 σ6 69 a1 fun v11 =>
    some (v11, σ6)
def f_X9_ways (σ : St)  : Option (Int × St) :=
bd2 (f_X9_findChain σ (-1)) fun v1 σ2 =>
if v1 = 0 then
  bd2 (f_X9_no σ2) fun v5 σ6 =>
  some (v5, σ6)
else
  bd1 (f_X0_waysOfLeast σ2) fun v7 =>
  some (v7, σ2)
def f_X9_next (σ : St)  : Option (Int × St) :=
bd2 (f_X9_findChain σ (-1)) fun v1 σ2 =>
if v1 = 0 then
  bd2 (f_X9_no σ2) fun v5 σ6 =>
  some (v5, σ6)
else
  bd1 (f_X0_secondPrice σ2) fun v7 =>
  some (v7, σ2)
def f_X9_dearest (σ : St)  : Option (Int × St) :=
bd2 (f_X9_findChain σ (-1)) fun v1 σ2 =>
if v1 = 0 then
  bd2 (f_X9_no σ2) fun v5 σ6 =>
  some (v5, σ6)
else
  bd1 (f_X0_mostPrice σ2) fun v7 =>
  some (v7, σ2)
def f_X9_without (σ : St) (a1 : Int) : Option (Int × St) :=
if (f_X9_isUnit σ a1) = 0 then
  bd2 (f_X9_bad σ) fun v3 σ4 =>
  some (v3, σ4)
else
  bd2 (f_X9_findChain σ a1) fun v5 σ6 =>
  if v5 = 0 then
    bd2 (f_X9_no σ6) fun v9 σ10 =>
    some (v9, σ10)
  else
    bd1 (f_X0_leastPrice σ6) fun v11 =>
    some (v11, σ6)
def f_X9_about (σ : St) (a1 : Int) : Option (Int × St) :=
if (f_X9_within a1 0 3) = 0 then
  bd2 (f_X9_bad σ) fun v3 σ4 =>
  some (v3, σ4)
else
  bd2 (f_X9_findChain σ (-1)) fun v5 σ6 =>
  if v5 = 0 then
    bd2 (f_X9_no σ6) fun v9 σ10 =>
    some (v9, σ10)
  else
    if wI a1 = 0 then
      bd1 (f_X0_pathFollowers σ6) fun v12 =>
      some (v12, σ6)
    else
      if wI a1 = 1 then
        bd1 (f_X0_pathFits σ6 (σ6 0 8)) fun v14 =>
        some (v14, σ6)
      else
        if wI a1 = 2 then
          bd1 (f_X0_pathJoints σ6) fun v16 =>
          some (v16, σ6)
        else
          bd1 (f_X0_dearestPathJoint σ6) fun v17 =>
          some (v17, σ6)
def lp_X9_cheapest_39 (x1 : Int) (kx : St → Int → Int → Option (Int × St)) : Nat → St → Int → Int → Int → Option (Int × St)
  | 0, _, _, _, _ => none
  | n + 1, σ, x2, x3, x4 =>
    if wI x4 < 5 then
      bd2 (f_X0_weigh σ x4) fun v12 σ13 =>
      bd1 (f_X0_leastPrice σ13) fun v14 =>
      if wI v14 < wI x3 then
        bd1 (f_X0_leastPrice σ13) fun v16 =>
        lp_X9_cheapest_39 x1 kx n σ13 x4 v16 (x4 + 1)
      else
        lp_X9_cheapest_39 x1 kx n σ13 x2 x3 (x4 + 1)
    else
      kx σ x2 x3
def f_X9_cheapest (σ : St) (a1 : Int) : Option (Int × St) :=
if (f_X9_within a1 0 1) = 0 then
  bd2 (f_X9_bad σ) fun v3 σ4 =>
  some (v3, σ4)
else
  bd2 (f_X2_chooseAll σ (-1)) fun v5 σ6 =>
  if v5 = 0 then
    bd2 (f_X9_no σ6) fun v9 σ10 =>
    some (v9, σ10)
  else
    lp_X9_cheapest_39 a1 (fun σ17 y18 y19 =>
        some ((if wI a1 = 0 then y18 else y19), σ17)) 1000 σ6 0 1000000 0
def f_X9_told (σ : St) (a1 : Int) : Option (Int × St) :=
if wI a1 = 0 then
  some (σ 0 9, σ)
else
  if wI a1 = 1 then
    some (σ 0 10, σ)
  else
    if wI a1 = 2 then
      some (σ 0 11, σ)
    else
      if wI a1 = 3 then
        some (σ 21 3, σ)
      else
        if wI a1 = 4 then
          some (σ 1 8, σ)
        else
          if wI a1 = 5 then
            some (σ 10 3, σ)
          else
            if wI a1 = 6 then
              some (σ 0 8, σ)
            else
              bd2 (f_X9_bad σ) fun v8 σ9 =>
              some (v8, σ9)
def lp_X9_digest_6 (kx : St → Int → Option (Int × St)) : Nat → St → Int → Int → Option (Int × St)
  | 0, _, _, _ => none
  | n + 1, σ, x1, x3 =>
    if 6 < wI x3 then
      kx σ x1
    else
      bd2 (f_X9_told σ x3) fun v2 σ3 =>
      bnd ((31 * x1) + (i2lI v2)) fun v4 =>
      lp_X9_digest_6 kx n σ3 v4 (x3 + 1)
def lp_X9_digest_47 (x3 : Int) (kx : St → Int → Option (Int × St)) : Nat → St → Int → Int → Option (Int × St)
  | 0, _, _, _ => none
  | n + 1, σ, x1, x4 =>
    if 5 < wI x4 then
      kx σ x1
    else
      bd2 (f_X9_of σ x3 x4) fun v9 σ10 =>
      bnd ((31 * x1) + (i2lI v9)) fun v11 =>
      lp_X9_digest_47 x3 kx n σ10 v11 (x4 + 1)
def lp_X9_digest_33 (kx : St → Int → Option (Int × St)) : Nat → St → Int → Int → Option (Int × St)
  | 0, _, _, _ => none
  | n + 1, σ, x1, x3 =>
    if wI x3 < wI (σ 1 8) then
      lp_X9_digest_47 x3 (fun σ12 y13 =>
          lp_X9_digest_33 kx n σ12 y13 (x3 + 1)) 1000 σ x1 0
    else
      kx σ x1
def lp_X9_digest_82 (kx : St → Int → Option (Int × St)) : Nat → St → Int → Int → Option (Int × St)
  | 0, _, _, _ => none
  | n + 1, σ, x1, x3 =>
    if wI x3 < 6 then
      rdA 6 σ 34 x3 fun v17 =>
      bnd ((31 * x1) + (i2lI v17)) fun v18 =>
      lp_X9_digest_82 kx n σ v18 (x3 + 1)
    else
      kx σ x1
def lp_X9_digest_124 (x3 : Int) (kx : St → Int → Option (Int × St)) : Nat → St → Int → Int → Option (Int × St)
  | 0, _, _, _ => none
  | n + 1, σ, x1, x4 =>
    if 2 < wI x4 then
      kx σ x1
    else
      bd2 (f_X9_target σ x3 x4) fun v23 σ24 =>
      bnd ((31 * x1) + (i2lI v23)) fun v25 =>
      lp_X9_digest_124 x3 kx n σ24 v25 (x4 + 1)
def lp_X9_digest_110 (kx : St → Int → Option (Int × St)) : Nat → St → Int → Int → Option (Int × St)
  | 0, _, _, _ => none
  | n + 1, σ, x1, x3 =>
    if wI x3 < wI (σ 10 3) then
      lp_X9_digest_124 x3 (fun σ26 y27 =>
          lp_X9_digest_110 kx n σ26 y27 (x3 + 1)) 1000 σ x1 0
    else
      kx σ x1
def lp_X9_digest_222 (kx : St → Int → Option (Int × St)) : Nat → St → Int → Int → Option (Int × St)
  | 0, _, _, _ => none
  | n + 1, σ, x1, x3 =>
    if wI x3 < wI (σ 10 3) then
      rdA 8 σ 69 x3 fun v39 =>
      bnd ((31 * x1) + (i2lI v39)) fun v40 =>
      lp_X9_digest_222 kx n σ v40 (x3 + 1)
    else
      kx σ x1
def f_X9_digest (σ : St)  : Option (Int × St) :=
lp_X9_digest_6 (fun σ5 y6 =>
    lp_X9_digest_33 (fun σ14 y15 =>
        lp_X9_digest_82 (fun σ19 y20 =>
            lp_X9_digest_110 (fun σ28 y29 =>
                bnd ((31 * y29) + (i2lI (σ28 14 7))) fun v30 =>
                bnd ((31 * v30) + (i2lI (σ28 14 8))) fun v31 =>
                bd2 (f_X9_findChain σ28 (-1)) fun v32 σ33 =>
                if v32 = 0 then
                  some ((31 * v31) + (-1), σ33)
                else
                  bd1 (f_X0_leastPrice σ33) fun v36 =>
                  bnd ((31 * v31) + (i2lI v36)) fun v37 =>
                  lp_X9_digest_222 (fun σ41 y42 =>
                      some (y42, σ41)) 1000 σ33 v37 0) 1000 σ19 y20 0) 1000 σ14 y15 0) 1000 σ5 y6 0) 1000 σ 1987 0
end
section
def f_X10_in (a0 : Int) (a2 : Int) (a4 : Int) : Int :=
(if cmpL a0 a2 < 0 then 0 else (if 0 < cmpL a0 a4 then 0 else 1))
def f_X10_bad (σ : St) (a1 : Int) : Option (Int × St) :=
rdA 3 σ 126 0 fun v1 =>
wrA 3 σ 126 0 (v1 + 1) fun σ2 =>
some (a1, σ2)
def f_X10_no (σ : St)  : Option (Int × St) :=
rdA 3 σ 126 1 fun v1 =>
wrA 3 σ 126 1 (v1 + 1) fun σ2 =>
some ((-3), σ2)
def f_X10_full (σ : St)  : Option (Int × St) :=
rdA 3 σ 126 2 fun v1 =>
wrA 3 σ 126 2 (v1 + 1) fun σ2 =>
some ((-4), σ2)
def f_X10_far (a0 : Int) (a1 : Int) : Int :=
(if wI a1 < wI a0 then a0 - a1 else a1 - a0)
def f_X10_at (σ0 : St) (a1 : Int) (a2 : Int) : Option Int :=
rdA 240 σ0 119 ((6 * a1) + a2) fun v1 =>
some v1
def f_X10_isUnit (σ0 : St) (a1 : Int) : Int :=
(f_X10_in (i2lI a1) 0 (i2lI ((σ0 118 1) - 1)))
def f_X10_isSound (a0 : Int) : Int :=
(f_X10_in (i2lI a0) 0 5)
def f_X10_lays (σ : St) (a1 : Int) (a2 : Int) (a3 : Int) (a4 : Int) (a5 : Int) (a6 : Int) : Option (Int × St) :=
bnd (6 * (σ 118 1)) fun v1 =>
wrA 240 σ 119 v1 a1 fun σ2 =>
wrA 240 σ2 119 (v1 + 1) a2 fun σ3 =>
wrA 240 σ3 119 (v1 + 2) a3 fun σ4 =>
wrA 240 σ4 119 (v1 + 3) a4 fun σ5 =>
wrA 240 σ5 119 (v1 + 4) a5 fun σ6 =>
wrA 240 σ6 119 (v1 + 5) a6 fun σ7 =>
wrF σ7 118 1 ((σ7 118 1) + 1) fun σ8 =>
some (0, σ8)
def f_X10_unit (σ : St) (a1 : Int) (a2 : Int) (a3 : Int) (a4 : Int) (a5 : Int) (a6 : Int) : Option (Int × St) :=
if (f_X10_isSound a1) = 0 then
  bd2 (f_X10_bad σ (-2)) fun v3 σ4 =>
  some (v3, σ4)
else
  if (f_X10_in (i2lI a2) 0 6) = 0 then
    bd2 (f_X10_bad σ (-2)) fun v7 σ8 =>
    some (v7, σ8)
  else
    if (f_X10_in (i2lI a3) 0 6) = 0 then
      bd2 (f_X10_bad σ (-2)) fun v11 σ12 =>
      some (v11, σ12)
    else
      if (f_X10_in (i2lI a4) 0 9) = 0 then
        bd2 (f_X10_bad σ (-2)) fun v15 σ16 =>
        some (v15, σ16)
      else
        if (f_X10_in (i2lI a5) 1 9) = 0 then
          bd2 (f_X10_bad σ (-2)) fun v19 σ20 =>
          some (v19, σ20)
        else
          if (f_X10_in (i2lI a6) 0 3) = 0 then
            bd2 (f_X10_bad σ (-2)) fun v23 σ24 =>
            some (v23, σ24)
          else
            if wI (σ 118 1) = 40 then
              bd2 (f_X10_full σ) fun v26 σ27 =>
              some (v26, σ27)
            else
              bd2 (f_X10_lays σ a1 a2 a3 a4 a5 a6) fun v28 σ29 =>
              some ((σ29 118 1) - 1, σ29)
def jn_X10_records_115 (kb : St → Int → Int → Option (Int × St)) (σ : St) (x2 : Int) (x3 : Int) (x4 : Int) (x6 : Int) (x7 : Int) (t0 : Int) : Option (Int × St) :=
  bd2 (f_X10_lays σ (remL (divL x4 65536) 6) t0 6 (remL (divL x4 4096) 10) ((remL (divL x4 1024) 9) + 1) x3) fun v20 σ21 =>
  kb σ21 x4 (x7 + 1)
def lp_X10_records_72 (x2 : Int) (x3 : Int) (x6 : Int) (kx : St → Option (Int × St)) : Nat → St → Int → Int → Option (Int × St)
  | 0, _, _, _ => none
  | n + 1, σ, x4, x7 =>
    if wI x7 < wI x2 then
      bnd (remL ((x4 * 1103515245) + 12345) 2147483648) fun v18 =>
      if wI x7 = 0 then
        jn_X10_records_115 (lp_X10_records_72 x2 x3 x6 kx n) σ x2 x3 v18 x6 x7 6
      else
        bd1 (f_X10_at σ ((σ 118 1) - 1) 0) fun v22 =>
        jn_X10_records_115 (lp_X10_records_72 x2 x3 x6 kx n) σ x2 x3 v18 x6 x7 v22
    else
      kx σ
def lp_X10_records_171 (kx : St → Option (Int × St)) : Nat → St → Int → Option (Int × St)
  | 0, _, _ => none
  | n + 1, σ, x7 =>
    if wI (x7 + 1) < wI (σ 118 1) then
      bd1 (f_X10_at σ (x7 + 1) 0) fun v25 =>
      wrA 240 σ 119 ((6 * x7) + 2) v25 fun σ26 =>
      lp_X10_records_171 kx n σ26 (x7 + 1)
    else
      kx σ
def f_X10_records (σ : St) (a1 : Int) (a2 : Int) (a3 : Int) : Option (Int × St) :=
if (f_X10_in (i2lI a1) 0 999999) = 0 then
  bd2 (f_X10_bad σ (-2)) fun v3 σ4 =>
  some (v3, σ4)
else
  if (f_X10_in (i2lI a2) 1 9) = 0 then
    bd2 (f_X10_bad σ (-2)) fun v7 σ8 =>
    some (v7, σ8)
  else
    if (f_X10_in (i2lI a3) 0 3) = 0 then
      bd2 (f_X10_bad σ (-2)) fun v11 σ12 =>
      some (v11, σ12)
    else
      if 40 < wI ((σ 118 1) + a2) then
        bd2 (f_X10_full σ) fun v14 σ15 =>
        some (v14, σ15)
      else
        bnd (i2lI a1) fun v16 =>
        lp_X10_records_72 a2 a3 (σ 118 1) (fun σ23 =>
            lp_X10_records_171 (fun σ27 =>
                some (σ27 118 1, σ27)) 1000 σ23 (σ 118 1)) 1000 σ v16 0
def lp_X10_nextOf_4 (σ0 : St) (x1 : Int) (kx : Option Int) : Nat → Int → Option Int
  | 0, _ => none
  | n + 1, x2 =>
    if wI x2 < wI (σ0 118 1) then
      bd1 (f_X10_at σ0 x2 5) fun v3 =>
      bd1 (f_X10_at σ0 x1 5) fun v4 =>
      if wI v3 = wI v4 then
        some x2
      else
        lp_X10_nextOf_4 σ0 x1 kx n (x2 + 1)
    else
      kx
def f_X10_nextOf (σ0 : St) (a1 : Int) : Option Int :=
bnd (a1 + 1) fun v1 =>
lp_X10_nextOf_4 σ0 a1 (
    some (-1)) 1000 v1
def f_X10_of (σ : St) (a1 : Int) (a2 : Int) : Option (Int × St) :=
if (f_X10_isUnit σ a1) = 0 then
  bd2 (f_X10_bad σ (-2)) fun v3 σ4 =>
  some (v3, σ4)
else
  if (f_X10_in (i2lI a2) 0 6) = 0 then
    bd2 (f_X10_bad σ (-2)) fun v7 σ8 =>
    some (v7, σ8)
  else
    if wI a2 = 6 then
      bd1 (f_X10_nextOf σ a1) fun v10 =>
      some (v10, σ)
    else
      bd1 (f_X10_at σ a1 a2) fun v11 =>
      some (v11, σ)
def f_X10_empties (σ : St)  : Option (Int × St) :=
wrF σ 118 1 0 fun σ1 =>
some (σ 118 1, σ1)
def f_X10_other (σ : St) (a1 : Int) (a2 : Int) : Option (Int × St) :=
if (f_X10_isSound a1) = 0 then
  bd2 (f_X10_bad σ (-2)) fun v3 σ4 =>
  some (v3, σ4)
else
  if (f_X10_isSound a2) = 0 then
    bd2 (f_X10_bad σ (-2)) fun v7 σ8 =>
    some (v7, σ8)
  else
    rdA 6 σ 121 a1 fun v9 =>
    wrA 6 σ 121 a1 a2 fun σ10 =>
    some (v9, σ10)
def f_X10_fitter (σ : St) (a1 : Int) : Option (Int × St) :=
if (f_X10_in (i2lI a1) 0 4) = 0 then
  bd2 (f_X10_bad σ (-2)) fun v3 σ4 =>
  some (v3, σ4)
else
  wrF σ 118 5 a1 fun σ5 =>
  some (σ 118 5, σ5)
def f_X10_type (σ : St) (a1 : Int) : Option (Int × St) :=
if (f_X10_in (i2lI a1) 0 127) = 0 then
  bd2 (f_X10_bad σ (-2)) fun v3 σ4 =>
  some (v3, σ4)
else
  if wI (σ 118 14) = 120 then
    bd2 (f_X10_full σ) fun v6 σ7 =>
    some (v6, σ7)
  else
    wrA 120 σ 127 (σ 118 14) a1 fun σ8 =>
    wrF σ8 118 14 ((σ8 118 14) + 1) fun σ9 =>
    some (σ9 118 14, σ9)
def f_X10_clear (σ : St)  : Option (Int × St) :=
wrF σ 118 14 0 fun σ1 =>
some (σ 118 14, σ1)
def lp_X10_here_0 (kx : St → Option (Int × St)) : Nat → St → Option (Int × St)
  | 0, _ => none
  | n + 1, σ =>
    if wI (σ 118 15) < wI (σ 118 14) then
      rdA 120 σ 127 (σ 118 15) fun v2 =>
      if wI v2 = 32 then
        wrF σ 118 15 ((σ 118 15) + 1) fun σ4 =>
        lp_X10_here_0 kx n σ4
      else
        kx σ
    else
      kx σ
def jn_X10_here_38 (σ : St)  : Option (Int × St) :=
  if wI (σ 118 15) < wI (σ 118 14) then
    rdA 120 σ 127 (σ 118 15) fun v7 =>
    some (v7, σ)
  else
    some (0, σ)
def f_X10_here (σ : St)  : Option (Int × St) :=
lp_X10_here_0 (fun σ5 =>
    jn_X10_here_38 σ5) 1000 σ
def f_X10_takes (σ : St) (a1 : Int) (a2 : Int) : Option (Int × St) :=
bd2 (f_X10_here σ) fun v1 σ2 =>
if (f_X10_in (i2lI v1) (i2lI a1) (i2lI a2)) = 0 then
  some ((-1), σ2)
else
  wrF σ2 118 15 ((σ2 118 15) + 1) fun σ5 =>
  some (v1 - a1, σ5)
def f_X10_letterOf (a0 : Int) (a1 : Int) : Int :=
(if wI a0 = 0 then (if wI a1 = 0 then 114 else (if wI a1 = 1 then 111 else 119)) else (if wI a1 = 0 then 116 else (if wI a1 = 1 then 114 else 101)))
def lp_X10_takesWord_25 (x2 : Int) (x3 : Int) (kx : St → Option (Int × St)) : Nat → St → Int → Option (Int × St)
  | 0, _, _ => none
  | n + 1, σ, x4 =>
    if wI x4 < wI (3 + x3) then
      if wI (x2 + x4) < wI (σ 118 14) then
        rdA 120 σ 127 (x2 + x4) fun v7 =>
        if wI v7 = wI (f_X10_letterOf x3 x4) then
          lp_X10_takesWord_25 x2 x3 kx n σ (x4 + 1)
        else
          wrF σ 118 15 x2 fun σ9 =>
          some ((-1), σ9)
      else
        wrF σ 118 15 (σ 118 14) fun σ10 =>
        some ((-1), σ10)
    else
      kx σ
def f_X10_takesWord (σ : St)  : Option (Int × St) :=
bd2 (f_X10_here σ) fun v1 σ2 =>
bnd (if wI v1 = 116 then 1 else 0) fun v4 =>
lp_X10_takesWord_25 (σ2 118 15) v4 (fun σ11 =>
    wrF σ11 118 15 (((σ2 118 15) + 3) + v4) fun σ12 =>
    some (v4, σ12)) 1000 σ2 0
def jn_X10_readsRow_65 (kb : St → Int → Option (Int × St)) (σ : St) (x1 : Int) (x2 : Int) (x3 : Int) (t0 : Int) : Option (Int × St) :=
  if wI t0 < 0 then
    some ((-1), σ)
  else
    wrA 24 σ 128 (3 * x1) x2 fun σ8 =>
    wrA 24 σ8 128 ((3 * x1) + 1) x3 fun σ9 =>
    wrA 24 σ9 128 ((3 * x1) + 2) (t0 + 1) fun σ10 =>
    kb σ10 (x1 + 1)
def jn_X10_readsRow_48 (kb : St → Int → Option (Int × St)) (σ : St) (x1 : Int) (x2 : Int) (t0 : Int) : Option (Int × St) :=
  if wI t0 < 0 then
    jn_X10_readsRow_65 (kb) σ x1 x2 t0 (-1)
  else
    bd2 (f_X10_takes σ 49 57) fun v11 σ12 =>
    jn_X10_readsRow_65 (kb) σ12 x1 x2 t0 v11
def jn_X10_readsRow_15 (kb : St → Int → Option (Int × St)) (σ : St) (x1 : Int) : Option (Int × St) :=
  if wI x1 = 8 then
    some ((-1), σ)
  else
    bd2 (f_X10_takes σ 97 102) fun v3 σ4 =>
    if wI v3 < 0 then
      jn_X10_readsRow_48 (kb) σ4 x1 v3 (-1)
    else
      bd2 (f_X10_takes σ4 48 57) fun v13 σ14 =>
      jn_X10_readsRow_48 (kb) σ14 x1 v3 v13
def lp_X10_readsRow_2 (kx : St → Int → Option (Int × St)) : Nat → St → Int → Option (Int × St)
  | 0, _, _ => none
  | n + 1, σ, x1 =>
    if wI x1 = 0 then
      jn_X10_readsRow_15 (lp_X10_readsRow_2 kx n) σ x1
    else
      bd2 (f_X10_here σ) fun v15 σ16 =>
      if wI v15 = 59 then
        kx σ16 x1
      else
        jn_X10_readsRow_15 (lp_X10_readsRow_2 kx n) σ16 x1
def f_X10_readsRow (σ : St)  : Option (Int × St) :=
lp_X10_readsRow_2 (fun σ18 y19 =>
    some (y19, σ18)) 1000 σ 0
def f_X10_questionOf (a0 : Int) : Int :=
(if wI a0 = 76 then 1 else (if wI a0 = 82 then 2 else (if wI a0 = 80 then 3 else (if wI a0 = 68 then 4 else 0))))
def jn_X10_hangs_46 (σ : St) (x2 : Int) : Option (Int × St) :=
  rdA 8 σ 134 (x2 - 1) fun v6 =>
  wrA 8 σ 134 (x2 - 1) (v6 + 1) fun σ7 =>
  some (0, σ7)
def f_X10_hangs (σ : St) (a1 : Int) (a2 : Int) : Option (Int × St) :=
if 0 < wI a2 then
  rdA 8 σ 134 (a2 - 1) fun v2 =>
  if wI v2 = 0 then
    rdA 8 σ 133 (a2 - 1) fun v4 =>
    wrA 128 σ 131 v4 a1 fun σ5 =>
    jn_X10_hangs_46 σ5 a2
  else
    rdA 8 σ 133 (a2 - 1) fun v8 =>
    wrA 128 σ 132 v8 a1 fun σ9 =>
    jn_X10_hangs_46 σ9 a2
else
  some (0, σ)
def jn_X10_readsTree_251 (kb : St → Int → Int → Int → Option (Int × St)) (σ : St) (x1 : Int) (x2 : Int) : Option (Int × St) :=
  bnd (if wI x2 = 0 then 1 else 0) fun v14 =>
  kb σ x1 x2 v14
def jn_X10_readsTree_68 (kb : St → Int → Int → Int → Option (Int × St)) (σ : St) (x1 : Int) (x2 : Int) (x4 : Int) (x5 : Int) : Option (Int × St) :=
  if wI x4 = 42 then
    wrF σ 118 15 ((σ 118 15) + 1) fun σ17 =>
    wrA 128 σ17 129 x1 0 fun σ18 =>
    wrA 128 σ18 130 x1 (σ18 118 21) fun σ19 =>
    wrF σ19 118 21 ((σ19 118 21) + 1) fun σ20 =>
    bd2 (f_X10_hangs σ20 x1 x2) fun v21 σ22 =>
    jn_X10_readsTree_251 (kb) σ22 (x1 + 1) x2
  else
    if 0 < wI x5 then
      if wI x2 < 7 then
        wrF σ 118 15 ((σ 118 15) + 1) fun σ25 =>
        bd2 (f_X10_takes σ25 48 (if wI x5 < 3 then 54 else 57)) fun v27 σ28 =>
        if wI v27 < 0 then
          some ((-1), σ28)
        else
          bd2 (f_X10_takes σ28 40 40) fun v30 σ31 =>
          if wI v30 < 0 then
            some ((-1), σ31)
          else
            wrA 128 σ31 129 x1 x5 fun σ33 =>
            wrA 128 σ33 130 x1 v27 fun σ34 =>
            bd2 (f_X10_hangs σ34 x1 x2) fun v35 σ36 =>
            wrA 8 σ36 133 x2 x1 fun σ37 =>
            wrA 8 σ37 134 x2 0 fun σ38 =>
            wrF σ38 118 22 (if wI (σ38 118 22) < wI (x2 + 1) then x2 + 1 else σ38 118 22) fun σ40 =>
            jn_X10_readsTree_251 (kb) σ40 (x1 + 1) (x2 + 1)
      else
        some ((-1), σ)
    else
      some ((-1), σ)
def lp_X10_readsTree_16 (kx : St → Option (Int × St)) : Nat → St → Int → Int → Int → Option (Int × St)
  | 0, _, _, _, _ => none
  | n + 1, σ, x1, x2, x3 =>
    if wI x3 = 0 then
      bd2 (f_X10_here σ) fun v4 σ5 =>
      bnd (f_X10_questionOf v4) fun v6 =>
      if 0 < wI x2 then
        rdA 8 σ5 134 (x2 - 1) fun v8 =>
        if wI v8 = 2 then
          bd2 (f_X10_takes σ5 41 41) fun v10 σ11 =>
          if wI v10 < 0 then
            some ((-1), σ11)
          else
            jn_X10_readsTree_251 (lp_X10_readsTree_16 kx n) σ11 x1 (x2 + (-1))
        else
          jn_X10_readsTree_68 (lp_X10_readsTree_16 kx n) σ5 x1 x2 v4 v6
      else
        jn_X10_readsTree_68 (lp_X10_readsTree_16 kx n) σ5 x1 x2 v4 v6
    else
      kx σ
def f_X10_readsTree (σ : St)  : Option (Int × St) :=
wrF σ 118 21 0 fun σ1 =>
wrF σ1 118 22 0 fun σ2 =>
lp_X10_readsTree_16 (fun σ43 =>
    some (σ43 118 21, σ43)) 1000 σ2 0 0 0
def lp_X10_reads_115 (x2 : Int) (kx : St → Option (Int × St)) : Nat → St → Int → Option (Int × St)
  | 0, _, _ => none
  | n + 1, σ, x4 =>
    if wI x4 < wI (3 * x2) then
      rdA 24 σ 128 x4 fun v16 =>
      wrA 24 σ 120 x4 v16 fun σ17 =>
      lp_X10_reads_115 x2 kx n σ17 (x4 + 1)
    else
      kx σ
def lp_X10_reads_162 (x2 : Int) (kx : St → Option (Int × St)) : Nat → St → Int → Option (Int × St)
  | 0, _, _ => none
  | n + 1, σ, x4 =>
    if wI x4 < 128 then
      rdA 128 σ 129 x4 fun v22 =>
      wrA 128 σ 122 x4 v22 fun σ23 =>
      rdA 128 σ23 130 x4 fun v24 =>
      wrA 128 σ23 123 x4 v24 fun σ25 =>
      rdA 128 σ25 131 x4 fun v26 =>
      wrA 128 σ25 124 x4 v26 fun σ27 =>
      rdA 128 σ27 132 x4 fun v28 =>
      wrA 128 σ27 125 x4 v28 fun σ29 =>
      lp_X10_reads_162 x2 kx n σ29 (x4 + 1)
    else
      kx σ
def jn_X10_reads_72 (σ : St) (x1 : Int) (x2 : Int) (t0 : Int) : Option (Int × St) :=
  if wI t0 = 0 then
    if wI x2 < 0 then
      if wI x1 < 0 then
        some ((-10) - (σ 118 15), σ)
      else
        bd2 (f_X10_here σ) fun v9 σ10 =>
        some ((-10) - (σ10 118 15), σ10)
    else
      bd2 (f_X10_here σ) fun v11 σ12 =>
      some ((-10) - (σ12 118 15), σ12)
  else
    if wI x1 = 0 then
      wrF σ 118 3 x2 fun σ14 =>
      lp_X10_reads_115 x2 (fun σ18 =>
          some (x2, σ18)) 1000 σ14 0
    else
      wrF σ 118 10 x2 fun σ19 =>
      wrF σ19 118 11 (σ19 118 22) fun σ20 =>
      lp_X10_reads_162 x2 (fun σ30 =>
          some (x2, σ30)) 1000 σ20 0
def jn_X10_reads_33 (σ : St) (x1 : Int) (t0 : Int) : Option (Int × St) :=
  if wI t0 < 0 then
    jn_X10_reads_72 σ x1 t0 0
  else
    bd2 (f_X10_takes σ 59 59) fun v31 σ32 =>
    if wI v31 = 0 then
      bd2 (f_X10_here σ32) fun v34 σ35 =>
      jn_X10_reads_72 σ35 x1 t0 (if wI v34 = 0 then (if wI (σ35 118 15) = wI (σ35 118 14) then 1 else 0) else 0)
    else
      jn_X10_reads_72 σ32 x1 t0 0
def f_X10_reads (σ : St)  : Option (Int × St) :=
wrF σ 118 15 0 fun σ1 =>
bd2 (f_X10_takesWord σ1) fun v2 σ3 =>
if wI v2 < 0 then
  jn_X10_reads_33 σ3 v2 (-1)
else
  if wI v2 = 0 then
    bd2 (f_X10_readsRow σ3) fun v40 σ41 =>
    jn_X10_reads_33 σ41 v2 v40
  else
    bd2 (f_X10_readsTree σ3) fun v42 σ43 =>
    jn_X10_reads_33 σ43 v2 v42
def f_X10_isTarget (σ0 : St) (a1 : Int) : Int :=
(f_X10_in (i2lI a1) 0 (i2lI ((σ0 118 3) - 1)))
def f_X10_targetLeft (σ0 : St) (a1 : Int) : Option Int :=
if wI a1 = 0 then
  some 6
else
  rdA 24 σ0 120 (3 * (a1 - 1)) fun v2 =>
  some v2
def f_X10_targetRight (σ0 : St) (a1 : Int) : Option Int :=
if wI a1 = wI ((σ0 118 3) - 1) then
  some 6
else
  rdA 24 σ0 120 (3 * (a1 + 1)) fun v2 =>
  some v2
def f_X10_target (σ : St) (a1 : Int) (a2 : Int) : Option (Int × St) :=
if (f_X10_isTarget σ a1) = 0 then
  bd2 (f_X10_bad σ (-2)) fun v3 σ4 =>
  some (v3, σ4)
else
  if (f_X10_in (i2lI a2) 0 4) = 0 then
    bd2 (f_X10_bad σ (-2)) fun v7 σ8 =>
    some (v7, σ8)
  else
    if wI a2 < 3 then
      rdA 24 σ 120 ((3 * a1) + a2) fun v10 =>
      some (v10, σ)
    else
      if wI a2 = 3 then
        bd1 (f_X10_targetLeft σ a1) fun v12 =>
        some (v12, σ)
      else
        bd1 (f_X10_targetRight σ a1) fun v13 =>
        some (v13, σ)
def f_X10_answers (σ0 : St) (a1 : Int) (a2 : Int) (a3 : Int) (a4 : Int) (a5 : Int) : Option Int :=
rdA 128 σ0 123 a1 fun v1 =>
rdA 128 σ0 122 a1 fun v2 =>
if wI v2 = 1 then
  some (if wI a2 = wI v1 then 1 else 0)
else
  if wI v2 = 2 then
    some (if wI a3 = wI v1 then 1 else 0)
  else
    if wI v2 = 3 then
      some (if wI v1 < wI a4 then 1 else 0)
    else
      some (if wI v1 < wI a5 then 1 else 0)
def f_X10_unitAnswers (σ0 : St) (a1 : Int) (a2 : Int) : Option Int :=
bd1 (f_X10_at σ0 a2 1) fun v1 =>
bd1 (f_X10_at σ0 a2 2) fun v2 =>
bd1 (f_X10_at σ0 a2 3) fun v3 =>
bd1 (f_X10_at σ0 a2 4) fun v4 =>
bd1 (f_X10_answers σ0 a1 v1 v2 v3 v4) fun v5 =>
some v5
def f_X10_targetAnswers (σ0 : St) (a1 : Int) (a2 : Int) : Option Int :=
bd1 (f_X10_targetLeft σ0 a2) fun v1 =>
bd1 (f_X10_targetRight σ0 a2) fun v2 =>
rdA 24 σ0 120 ((3 * a2) + 1) fun v3 =>
rdA 24 σ0 120 ((3 * a2) + 2) fun v4 =>
bd1 (f_X10_answers σ0 a1 v1 v2 v3 v4) fun v5 =>
some v5
def jn_X10_leafOf_30 (σ0 : St) (kb : Int → Option Int) (x1 : Int) (x2 : Int) (x3 : Int) (t0 : Int) : Option Int :=
  if wI t0 = 0 then
    rdA 128 σ0 125 x3 fun v7 =>
    kb v7
  else
    rdA 128 σ0 124 x3 fun v8 =>
    kb v8
def lp_X10_leafOf_2 (σ0 : St) (x1 : Int) (x2 : Int) (kx : Int → Option Int) : Nat → Int → Option Int
  | 0, _ => none
  | n + 1, x3 =>
    rdA 128 σ0 122 x3 fun v1 =>
    if wI v1 = 0 then
      kx x3
    else
      if wI x1 = 0 then
        bd1 (f_X10_targetAnswers σ0 x3 x2) fun v4 =>
        jn_X10_leafOf_30 σ0 (lp_X10_leafOf_2 σ0 x1 x2 kx n) x1 x2 x3 v4
      else
        bd1 (f_X10_unitAnswers σ0 x3 x2) fun v9 =>
        jn_X10_leafOf_30 σ0 (lp_X10_leafOf_2 σ0 x1 x2 kx n) x1 x2 x3 v9
def f_X10_leafOf (σ0 : St) (a1 : Int) (a2 : Int) : Option Int :=
lp_X10_leafOf_2 σ0 a1 a2 (fun y11 =>
    rdA 128 σ0 123 y11 fun v12 =>
    some v12) 1000 0
def lp_X10_emptyLeaves_17 (σ0 : St) (x1 : Int) (x2 : Int) (kx : Int → Option Int) : Nat → Int → Int → Option Int
  | 0, _, _ => none
  | n + 1, x3, x4 =>
    if wI x4 < wI (σ0 118 1) then
      if wI x3 = 0 then
        bd1 (f_X10_leafOf σ0 1 x4) fun v4 =>
        bnd (if wI v4 = wI x2 then 1 else 0) fun v6 =>
        lp_X10_emptyLeaves_17 σ0 x1 x2 kx n v6 (x4 + 1)
      else
        lp_X10_emptyLeaves_17 σ0 x1 x2 kx n 1 (x4 + 1)
    else
      kx x3
def lp_X10_emptyLeaves_4 (σ0 : St) (kx : Int → Option Int) : Nat → Int → Int → Option Int
  | 0, _, _ => none
  | n + 1, x1, x2 =>
    if wI x2 < wI (σ0 118 10) then
      lp_X10_emptyLeaves_17 σ0 x1 x2 (fun y8 =>
          bnd (x1 + (if wI y8 = 0 then 1 else 0)) fun v10 =>
          lp_X10_emptyLeaves_4 σ0 kx n v10 (x2 + 1)) 1000 0 0
    else
      kx x1
def f_X10_emptyLeaves (σ0 : St)  : Option Int :=
lp_X10_emptyLeaves_4 σ0 (fun y12 =>
    some y12) 1000 0 0
def f_X10_tree (σ : St) (a1 : Int) : Option (Int × St) :=
if (f_X10_in (i2lI a1) 0 2) = 0 then
  bd2 (f_X10_bad σ (-2)) fun v3 σ4 =>
  some (v3, σ4)
else
  if wI a1 = 0 then
    some (σ 118 10, σ)
  else
    if wI a1 = 1 then
      some (σ 118 11, σ)
    else
      bd1 (f_X10_emptyLeaves σ) fun v7 =>
      some (v7, σ)
def jn_X10_leaf_40 (σ : St) (x1 : Int) (x2 : Int) : Option (Int × St) :=
  bd1 (f_X10_leafOf σ (if wI x1 = 0 then 1 else 0) x2) fun v11 =>
  some (v11, σ)
def f_X10_leaf (σ : St) (a1 : Int) (a2 : Int) : Option (Int × St) :=
if (f_X10_in (i2lI a1) 0 1) = 0 then
  bd2 (f_X10_bad σ (-2)) fun v3 σ4 =>
  some (v3, σ4)
else
  if wI a1 = 0 then
    if (f_X10_isUnit σ a2) = 0 then
      bd2 (f_X10_bad σ (-2)) fun v8 σ9 =>
      some (v8, σ9)
    else
      jn_X10_leaf_40 σ a1 a2
  else
    if (f_X10_isTarget σ a2) = 0 then
      bd2 (f_X10_bad σ (-2)) fun v15 σ16 =>
      some (v15, σ16)
    else
      jn_X10_leaf_40 σ a1 a2
def lp_X10_wayLong_4 (σ0 : St) (x1 : Int) (kx : Int → Option Int) : Nat → Int → Int → Option Int
  | 0, _, _ => none
  | n + 1, x2, x3 =>
    rdA 128 σ0 122 x2 fun v1 =>
    if wI v1 = 0 then
      kx x3
    else
      bd1 (f_X10_targetAnswers σ0 x2 x1) fun v3 =>
      if v3 = 0 then
        rdA 128 σ0 125 x2 fun v6 =>
        lp_X10_wayLong_4 σ0 x1 kx n v6 (x3 + 1)
      else
        rdA 128 σ0 124 x2 fun v7 =>
        lp_X10_wayLong_4 σ0 x1 kx n v7 (x3 + 1)
def f_X10_wayLong (σ0 : St) (a1 : Int) : Option Int :=
lp_X10_wayLong_4 σ0 a1 (fun y8 =>
    some y8) 1000 0 0
def lp_X10_goesAlong_5 (σ0 : St) (x1 : Int) (x2 : Int) (kx : Int → Option Int) : Nat → Int → Int → Option Int
  | 0, _, _ => none
  | n + 1, x3, x4 =>
    rdA 128 σ0 122 x3 fun v1 =>
    if wI v1 = 0 then
      kx x4
    else
      bd1 (f_X10_unitAnswers σ0 x3 x1) fun v3 =>
      bd1 (f_X10_targetAnswers σ0 x3 x2) fun v5 =>
      if v3 = v5 then
        bd1 (f_X10_targetAnswers σ0 x3 x2) fun v8 =>
        if v8 = 0 then
          rdA 128 σ0 125 x3 fun v11 =>
          lp_X10_goesAlong_5 σ0 x1 x2 kx n v11 (x4 + 1)
        else
          rdA 128 σ0 124 x3 fun v12 =>
          lp_X10_goesAlong_5 σ0 x1 x2 kx n v12 (x4 + 1)
      else
        kx x4
def f_X10_goesAlong (σ0 : St) (a1 : Int) (a2 : Int) : Option Int :=
lp_X10_goesAlong_5 σ0 a1 a2 (fun y13 =>
    some y13) 1000 0 0
def jn_X10_chooses_110 (kb : St → Int → Int → Option (Int × St)) (σ : St) (x1 : Int) (x2 : Int) (x3 : Int) (x4 : Int) (x5 : Int) (x6 : Int) (t0 : Int) : Option (Int × St) :=
  bnd (if wI x5 < wI t0 then t0 else x5) fun v12 =>
  kb σ v12 (x6 + 1)
def jn_X10_chooses_92 (kb : St → Int → Int → Option (Int × St)) (σ : St) (x1 : Int) (x2 : Int) (x3 : Int) (x4 : Int) (x5 : Int) (x6 : Int) (t0 : Int) : Option (Int × St) :=
  if wI t0 = 0 then
    jn_X10_chooses_110 (kb) σ x1 x2 x3 x4 x5 x6 (-1)
  else
    bd1 (f_X10_goesAlong σ x6 x1) fun v14 =>
    jn_X10_chooses_110 (kb) σ x1 x2 x3 x4 x5 x6 v14
def lp_X10_chooses_58 (x1 : Int) (x2 : Int) (x3 : Int) (x4 : Int) (kx : St → Int → Option (Int × St)) : Nat → St → Int → Int → Option (Int × St)
  | 0, _, _, _ => none
  | n + 1, σ, x5, x6 =>
    if wI x6 < wI (σ 118 1) then
      if wI x6 = wI (σ 118 27) then
        jn_X10_chooses_92 (lp_X10_chooses_58 x1 x2 x3 x4 kx n) σ x1 x2 x3 x4 x5 x6 0
      else
        bd1 (f_X10_at σ x6 0) fun v15 =>
        jn_X10_chooses_92 (lp_X10_chooses_58 x1 x2 x3 x4 kx n) σ x1 x2 x3 x4 x5 x6 (if wI v15 = wI x2 then 1 else 0)
    else
      kx σ x5
def lp_X10_chooses_146 (x1 : Int) (x2 : Int) (x4 : Int) (x5 : Int) (kx : St → Int → Option (Int × St)) : Nat → St → Int → Int → Option (Int × St)
  | 0, _, _, _ => none
  | n + 1, σ, x6, x7 =>
    if wI x7 < wI (σ 118 1) then
      if wI x7 = wI (σ 118 27) then
        lp_X10_chooses_146 x1 x2 x4 x5 kx n σ x6 (x7 + 1)
      else
        bd1 (f_X10_at σ x7 0) fun v25 =>
        if wI v25 = wI x2 then
          bd1 (f_X10_goesAlong σ x7 x1) fun v27 =>
          if wI v27 = wI x5 then
            wrA 320 σ 135 ((40 * x1) + x6) x7 fun σ29 =>
            lp_X10_chooses_146 x1 x2 x4 x5 kx n σ29 (x6 + 1) (x7 + 1)
          else
            lp_X10_chooses_146 x1 x2 x4 x5 kx n σ x6 (x7 + 1)
        else
          lp_X10_chooses_146 x1 x2 x4 x5 kx n σ x6 (x7 + 1)
    else
      kx σ x6
def lp_X10_chooses_28 (x1 : Int) (x4 : Int) (kx : St → Option (Int × St)) : Nat → St → Int → Int → Option (Int × St)
  | 0, _, _, _ => none
  | n + 1, σ, x2, x3 =>
    if wI (andI (shrI x3 x2) 1) = 0 then
      bnd (orI x3 (shlI 1 x2)) fun v6 =>
      wrF σ 118 29 ((σ 118 29) + 1) fun σ7 =>
      lp_X10_chooses_58 x1 x2 v6 x4 (fun σ18 y19 =>
          if wI y19 = (-1) then
            wrF σ18 118 28 ((σ18 118 28) + (x4 + 1)) fun σ21 =>
            rdA 6 σ21 121 x2 fun v22 =>
            lp_X10_chooses_28 x1 x4 kx n σ21 v22 v6
          else
            lp_X10_chooses_146 x1 x2 x4 y19 (fun σ30 y31 =>
                wrA 8 σ30 136 x1 y31 fun σ32 =>
                wrF σ32 118 28 ((σ32 118 28) + (x4 - y19)) fun σ33 =>
                some (1, σ33)) 1000 σ18 0 0) 1000 σ7 (-1) 0
    else
      kx σ
def f_X10_chooses (σ : St) (a1 : Int) : Option (Int × St) :=
rdA 24 σ 120 (3 * a1) fun v1 =>
bd1 (f_X10_wayLong σ a1) fun v2 =>
wrF σ 118 28 0 fun σ3 =>
wrF σ3 118 29 0 fun σ4 =>
lp_X10_chooses_28 a1 v2 (fun σ34 =>
    some (0, σ34)) 1000 σ4 v1 0
def jn_X10_choice_27 (σ : St) (x1 : Int) (x2 : Int) : Option (Int × St) :=
  if wI x2 < (-1) then
    bd2 (f_X10_bad σ (-10)) fun v8 σ9 =>
    some (v8, σ9)
  else
    if wI (σ 118 3) = 0 then
      bd2 (f_X10_no σ) fun v11 σ12 =>
      some (v11, σ12)
    else
      bd2 (f_X10_chooses σ x1) fun v13 σ14 =>
      if v13 = 0 then
        bd2 (f_X10_no σ14) fun v17 σ18 =>
        some (v17, σ18)
      else
        if wI x2 = (-1) then
          rdA 8 σ14 136 x1 fun v20 =>
          some (v20, σ14)
        else
          rdA 8 σ14 136 x1 fun v21 =>
          if wI x2 < wI v21 then
            rdA 320 σ14 135 ((40 * x1) + x2) fun v23 =>
            some (v23, σ14)
          else
            some ((-5), σ14)
def f_X10_choice (σ : St) (a1 : Int) (a2 : Int) : Option (Int × St) :=
if (f_X10_in (i2lI a1) 0 7) = 0 then
  bd2 (f_X10_bad σ (-10)) fun v3 σ4 =>
  some (v3, σ4)
else
  if 0 < wI (σ 118 3) then
    if wI a1 < wI (σ 118 3) then
      jn_X10_choice_27 σ a1 a2
    else
      bd2 (f_X10_bad σ (-10)) fun v24 σ25 =>
      some (v24, σ25)
  else
    jn_X10_choice_27 σ a1 a2
def f_X10_steps (σ : St) (a1 : Int) : Option (Int × St) :=
if (f_X10_isTarget σ a1) = 0 then
  bd2 (f_X10_bad σ (-2)) fun v3 σ4 =>
  some (v3, σ4)
else
  bd2 (f_X10_chooses σ a1) fun v5 σ6 =>
  some ((if v5 = 0 then (-1) else σ6 118 28), σ6)
def f_X10_tried (σ : St) (a1 : Int) : Option (Int × St) :=
if (f_X10_isTarget σ a1) = 0 then
  bd2 (f_X10_bad σ (-2)) fun v3 σ4 =>
  some (v3, σ4)
else
  bd2 (f_X10_chooses σ a1) fun v5 σ6 =>
  some (σ6 118 29, σ6)
def f_X10_fitAs (σ0 : St) (a1 : Int) (a2 : Int) (a3 : Int) : Option Int :=
bd1 (f_X10_at σ0 a2 3) fun v1 =>
rdA 24 σ0 120 ((3 * a3) + 1) fun v2 =>
bnd (f_X10_far v1 v2) fun v3 =>
bd1 (f_X10_at σ0 a2 4) fun v4 =>
rdA 24 σ0 120 ((3 * a3) + 2) fun v5 =>
bnd (v3 + (f_X10_far v4 v5)) fun v6 =>
bd1 (f_X10_at σ0 a2 1) fun v7 =>
bd1 (f_X10_targetLeft σ0 a3) fun v8 =>
bd1 (f_X10_at σ0 a2 2) fun v10 =>
bd1 (f_X10_targetRight σ0 a3) fun v11 =>
bnd ((v6 + (if wI v7 = wI v8 then 0 else 2)) + (if wI v10 = wI v11 then 0 else 2)) fun v13 =>
if wI a1 = 0 then
  some v6
else
  if wI a1 = 1 then
    some v13
  else
    if wI a1 = 2 then
      some (v6 + v3)
    else
      if wI a1 = 3 then
        some (2 * v13)
      else
        some (divI (v6 + v3) 2)
def f_X10_fit (σ : St) (a1 : Int) (a2 : Int) : Option (Int × St) :=
if (f_X10_isUnit σ a1) = 0 then
  bd2 (f_X10_bad σ (-2)) fun v3 σ4 =>
  some (v3, σ4)
else
  if (f_X10_isTarget σ a2) = 0 then
    bd2 (f_X10_bad σ (-2)) fun v7 σ8 =>
    some (v7, σ8)
  else
    bd1 (f_X10_fitAs σ (σ 118 5) a1 a2) fun v9 =>
    some (v9, σ)
def f_X10_jointOf (σ0 : St) (a1 : Int) (a2 : Int) : Option Int :=
bd1 (f_X10_nextOf σ0 a1) fun v1 =>
if wI v1 = wI a2 then
  some 0
else
  bd1 (f_X10_at σ0 a1 3) fun v3 =>
  bd1 (f_X10_at σ0 a2 3) fun v4 =>
  bd1 (f_X10_at σ0 a1 2) fun v5 =>
  bd1 (f_X10_at σ0 a2 0) fun v6 =>
  bd1 (f_X10_at σ0 a2 1) fun v8 =>
  bd1 (f_X10_at σ0 a1 0) fun v9 =>
  some (((3 + (f_X10_far v3 v4)) + (if wI v5 = wI v6 then 0 else 2)) + (if wI v8 = wI v9 then 0 else 2))
def f_X10_joint (σ : St) (a1 : Int) (a2 : Int) : Option (Int × St) :=
if (f_X10_isUnit σ a1) = 0 then
  bd2 (f_X10_bad σ (-2)) fun v3 σ4 =>
  some (v3, σ4)
else
  if (f_X10_isUnit σ a2) = 0 then
    bd2 (f_X10_bad σ (-2)) fun v7 σ8 =>
    some (v7, σ8)
  else
    bd1 (f_X10_jointOf σ a1 a2) fun v9 =>
    some (v9, σ)
def f_X10_begins (σ : St)  : Option (Int × St) :=
wrF σ 118 34 (-1) fun σ1 =>
wrF σ1 118 35 (-1) fun σ2 =>
wrF σ2 118 36 (-1) fun σ3 =>
wrF σ3 118 37 0 fun σ4 =>
some (0, σ4)
def f_X10_offers (σ : St) (a1 : Int) : Option (Int × St) :=
if wI (σ 118 34) = (-1) then
  wrF σ 118 35 (σ 118 34) fun σ2 =>
  wrF σ2 118 34 a1 fun σ3 =>
  some (0, σ3)
else
  if wI a1 < wI (σ 118 34) then
    wrF σ 118 35 (σ 118 34) fun σ5 =>
    wrF σ5 118 34 a1 fun σ6 =>
    some (0, σ6)
  else
    if wI (σ 118 35) = (-1) then
      wrF σ 118 35 a1 fun σ8 =>
      some (0, σ8)
    else
      if wI a1 < wI (σ 118 35) then
        wrF σ 118 35 a1 fun σ10 =>
        some (0, σ10)
      else
        some (0, σ)
def jn_X10_takesIn_118 (σ : St) (x1 : Int) (x2 : Int) (t0 : Int) : Option (Int × St) :=
  wrF σ 118 37 t0 fun σ12 =>
  rdA 320 σ12 139 x1 fun v13 =>
  if wI (σ12 118 36) < wI (v13 + x2) then
    rdA 320 σ12 139 x1 fun v15 =>
    wrF σ12 118 36 (v15 + x2) fun σ16 =>
    some (0, σ16)
  else
    wrF σ12 118 36 (σ12 118 36) fun σ17 =>
    some (0, σ17)
def jn_X10_takesIn_84 (σ : St) (x1 : Int) (x2 : Int) (x5 : Int) : Option (Int × St) :=
  rdA 320 σ 140 x1 fun v10 =>
  if 0 < cmpL (x5 + (i2lI v10)) 1000000000 then
    jn_X10_takesIn_118 σ x1 x2 1000000000
  else
    rdA 320 σ 140 x1 fun v18 =>
    jn_X10_takesIn_118 σ x1 x2 (x5 + (i2lI v18))
def jn_X10_takesIn_43 (σ : St) (x1 : Int) (x2 : Int) (x3 : Int) (x4 : Int) : Option (Int × St) :=
  bnd (if wI x3 = (-1) then 0 else (if wI x4 < wI x3 then 0 else i2lI (σ 118 37))) fun v8 =>
  if wI x3 = (-1) then
    jn_X10_takesIn_84 σ x1 x2 v8
  else
    if wI x3 < wI x4 then
      jn_X10_takesIn_118 σ x1 x2 (σ 118 37)
    else
      jn_X10_takesIn_84 σ x1 x2 v8
def f_X10_takesIn (σ : St) (a1 : Int) (a2 : Int) : Option (Int × St) :=
rdA 320 σ 137 a1 fun v1 =>
bnd (v1 + a2) fun v2 =>
bd2 (f_X10_offers σ v2) fun v3 σ4 =>
rdA 320 σ4 138 a1 fun v5 =>
if wI v5 = (-1) then
  jn_X10_takesIn_43 σ4 a1 a2 (σ 118 34) v2
else
  rdA 320 σ4 138 a1 fun v22 =>
  bd2 (f_X10_offers σ4 (v22 + a2)) fun v23 σ24 =>
  jn_X10_takesIn_43 σ24 a1 a2 (σ 118 34) v2
def lp_X10_chains_15 (x1 : Int) (kx : St → Int → Option (Int × St)) : Nat → St → Int → Int → Option (Int × St)
  | 0, _, _, _ => none
  | n + 1, σ, x2, x3 =>
    if wI x3 < wI (σ 118 3) then
      if wI x2 = 0 then
        kx σ x2
      else
        bd2 (f_X10_chooses σ x3) fun v5 σ6 =>
        lp_X10_chains_15 x1 kx n σ6 v5 (x3 + 1)
    else
      kx σ x2
def lp_X10_chains_103 (x1 : Int) (x2 : Int) (x3 : Int) (x4 : Int) (x5 : Int) (x6 : Int) (x7 : Int) (kx : St → Option (Int × St)) : Nat → St → Int → Option (Int × St)
  | 0, _, _ => none
  | n + 1, σ, x8 =>
    if wI (x3 + 1) < wI (σ 118 3) then
      rdA 8 σ 136 (x3 + 1) fun v21 =>
      if wI x8 < wI v21 then
        bnd ((40 * (x3 + 1)) + x8) fun v23 =>
        rdA 320 σ 135 v23 fun v24 =>
        bd1 (f_X10_jointOf σ x6 v24) fun v25 =>
        bd2 (f_X10_takesIn σ v23 v25) fun v26 σ27 =>
        lp_X10_chains_103 x1 x2 x3 x4 x5 x6 x7 kx n σ27 (x8 + 1)
      else
        kx σ
    else
      kx σ
def jn_X10_chains_162 (kb : St → Int → Option (Int × St)) (σ : St) (x1 : Int) (x2 : Int) (x3 : Int) (x4 : Int) (x5 : Int) (x7 : Int) : Option (Int × St) :=
  bnd (if wI (x3 + 1) = wI (σ 118 3) then 1 else 0) fun v30 =>
  wrA 320 σ 137 x5 (x7 + (if v30 = 0 then σ 118 34 else 0)) fun σ32 =>
  wrA 320 σ32 138 x5 (if v30 = 0 then (if wI (σ32 118 35) = (-1) then (-1) else x7 + (σ32 118 35)) else (-1)) fun σ34 =>
  wrA 320 σ34 139 x5 (x7 + (if v30 = 0 then σ34 118 36 else 0)) fun σ36 =>
  wrA 320 σ36 140 x5 (if v30 = 0 then σ36 118 37 else 1) fun σ38 =>
  kb σ38 (x4 + 1)
def lp_X10_chains_57 (x1 : Int) (x2 : Int) (x3 : Int) (kx : St → Option (Int × St)) : Nat → St → Int → Option (Int × St)
  | 0, _, _ => none
  | n + 1, σ, x4 =>
    rdA 8 σ 136 x3 fun v13 =>
    if wI x4 < wI v13 then
      bnd ((40 * x3) + x4) fun v15 =>
      rdA 320 σ 135 v15 fun v16 =>
      bd1 (f_X10_fitAs σ x1 v16 x3) fun v17 =>
      bd2 (f_X10_begins σ) fun v18 σ19 =>
      lp_X10_chains_103 x1 x2 x3 x4 v15 v16 v17 (fun σ28 =>
          jn_X10_chains_162 (lp_X10_chains_57 x1 x2 x3 kx n) σ28 x1 x2 x3 x4 v15 v17) 1000 σ19 0
    else
      kx σ
def lp_X10_chains_46 (x1 : Int) (x2 : Int) (kx : St → Option (Int × St)) : Nat → St → Int → Option (Int × St)
  | 0, _, _ => none
  | n + 1, σ, x3 =>
    if wI x3 < 0 then
      kx σ
    else
      if wI x2 = 0 then
        kx σ
      else
        lp_X10_chains_57 x1 x2 x3 (fun σ45 =>
            lp_X10_chains_46 x1 x2 kx n σ45 (x3 + (-1))) 1000 σ 0
def lp_X10_chains_294 (x2 : Int) (kx : St → Option (Int × St)) : Nat → St → Int → Option (Int × St)
  | 0, _, _ => none
  | n + 1, σ, x3 =>
    if wI x2 = 0 then
      kx σ
    else
      rdA 8 σ 136 0 fun v50 =>
      if wI x3 < wI v50 then
        bd2 (f_X10_takesIn σ x3 0) fun v52 σ53 =>
        lp_X10_chains_294 x2 kx n σ53 (x3 + 1)
      else
        kx σ
def jn_X10_chains_288 (σ : St) (x2 : Int) : Option (Int × St) :=
  bd2 (f_X10_begins σ) fun v47 σ48 =>
  lp_X10_chains_294 x2 (fun σ54 =>
      if x2 = 0 ∨ x2 = 1 then some (x2, σ54) else none) 1000 σ48 0
def jn_X10_chains_39 (σ : St) (x1 : Int) (x2 : Int) : Option (Int × St) :=
  bnd ((σ 118 3) - 1) fun v10 =>
  lp_X10_chains_46 x1 x2 (fun σ46 =>
      jn_X10_chains_288 σ46 x2) 1000 σ v10
def f_X10_chains (σ : St) (a1 : Int) : Option (Int × St) :=
bnd (if 0 < wI (σ 118 3) then 1 else 0) fun v2 =>
lp_X10_chains_15 a1 (fun σ8 y9 =>
    jn_X10_chains_39 σ8 a1 y9) 1000 σ v2 0
def f_X10_fitNow (σ0 : St) (a1 : Int) (a2 : Int) : Option Int :=
bd1 (f_X10_fitAs σ0 (σ0 118 39) a1 a2) fun v1 =>
some v1
def jn_X10_layChain_68 (kb : St → Int → Int → Option (Int × St)) (σ : St) (x1 : Int) (x2 : Int) (x3 : Int) (x4 : Int) (x5 : Int) (t0 : Int) : Option (Int × St) :=
  rdA 320 σ 137 x5 fun v7 =>
  bnd (if wI (v7 + t0) = wI x1 then x4 else x3) fun v9 =>
  kb σ v9 (x4 + (-1))
def lp_X10_layChain_27 (x1 : Int) (x2 : Int) (kx : St → Int → Option (Int × St)) : Nat → St → Int → Int → Option (Int × St)
  | 0, _, _, _ => none
  | n + 1, σ, x3, x4 =>
    if wI x4 < 0 then
      kx σ x3
    else
      bnd ((40 * x2) + x4) fun v5 =>
      if wI x2 = 0 then
        jn_X10_layChain_68 (lp_X10_layChain_27 x1 x2 kx n) σ x1 x2 x3 x4 v5 0
      else
        rdA 8 σ 141 (x2 - 1) fun v11 =>
        rdA 320 σ 135 v5 fun v12 =>
        bd1 (f_X10_jointOf σ v11 v12) fun v13 =>
        jn_X10_layChain_68 (lp_X10_layChain_27 x1 x2 kx n) σ x1 x2 x3 x4 v5 v13
def lp_X10_layChain_7 (kx : St → Option (Int × St)) : Nat → St → Int → Int → Option (Int × St)
  | 0, _, _, _ => none
  | n + 1, σ, x1, x2 =>
    if wI x2 < wI (σ 118 3) then
      rdA 8 σ 136 x2 fun v2 =>
      bnd (v2 - 1) fun v3 =>
      lp_X10_layChain_27 x1 x2 (fun σ14 y15 =>
          bnd ((40 * x2) + y15) fun v16 =>
          rdA 320 σ14 135 v16 fun v17 =>
          rdA 320 σ14 137 v16 fun v18 =>
          bd1 (f_X10_fitNow σ14 v17 x2) fun v19 =>
          bnd (v18 - v19) fun v20 =>
          wrA 8 σ14 141 x2 v17 fun σ21 =>
          lp_X10_layChain_7 kx n σ21 v20 (x2 + 1)) 1000 σ (-1) v3
    else
      kx σ
def f_X10_layChain (σ : St)  : Option (Int × St) :=
lp_X10_layChain_7 (fun σ22 =>
    some (0, σ22)) 1000 σ (σ 118 34) 0
def f_X10_chainsNow (σ : St)  : Option (Int × St) :=
wrF σ 118 39 (σ 118 5) fun σ1 =>
bd2 (f_X10_chains σ1 (σ1 118 5)) fun v2 σ3 =>
some (v2, σ3)
def f_X10_cost (σ : St)  : Option (Int × St) :=
bd2 (f_X10_chainsNow σ) fun v1 σ2 =>
if v1 = 0 then
  bd2 (f_X10_no σ2) fun v5 σ6 =>
  some (v5, σ6)
else
  some (σ2 118 34, σ2)
def jn_X10_chain_34 (σ : St) (x1 : Int) : Option (Int × St) :=
  bd2 (f_X10_chainsNow σ) fun v7 σ8 =>
  if v7 = 0 then
    bd2 (f_X10_no σ8) fun v11 σ12 =>
    some (v11, σ12)
  else
    bd2 (f_X10_layChain σ8) fun v13 σ14 =>
    rdA 8 σ14 141 x1 fun v15 =>
    some (v15, σ14)
def f_X10_chain (σ : St) (a1 : Int) : Option (Int × St) :=
if (f_X10_in (i2lI a1) 0 7) = 0 then
  bd2 (f_X10_bad σ (-2)) fun v3 σ4 =>
  some (v3, σ4)
else
  if 0 < wI (σ 118 3) then
    if wI a1 < wI (σ 118 3) then
      jn_X10_chain_34 σ a1
    else
      bd2 (f_X10_bad σ (-2)) fun v16 σ17 =>
      some (v16, σ17)
  else
    jn_X10_chain_34 σ a1
def f_X10_ways (σ : St)  : Option (Int × St) :=
bd2 (f_X10_chainsNow σ) fun v1 σ2 =>
if v1 = 0 then
  bd2 (f_X10_no σ2) fun v5 σ6 =>
  some (v5, σ6)
else
  some (σ2 118 37, σ2)
def f_X10_next (σ : St)  : Option (Int × St) :=
bd2 (f_X10_chainsNow σ) fun v1 σ2 =>
if v1 = 0 then
  bd2 (f_X10_no σ2) fun v5 σ6 =>
  some (v5, σ6)
else
  some (σ2 118 35, σ2)
def f_X10_dearest (σ : St)  : Option (Int × St) :=
bd2 (f_X10_chainsNow σ) fun v1 σ2 =>
if v1 = 0 then
  bd2 (f_X10_no σ2) fun v5 σ6 =>
  some (v5, σ6)
else
  some (σ2 118 36, σ2)
def f_X10_without (σ : St) (a1 : Int) : Option (Int × St) :=
if (f_X10_isUnit σ a1) = 0 then
  bd2 (f_X10_bad σ (-2)) fun v3 σ4 =>
  some (v3, σ4)
else
  bd2 (f_X10_chainsNow σ) fun v5 σ6 =>
  if v5 = 0 then
    bd2 (f_X10_no σ6) fun v9 σ10 =>
    some (v9, σ10)
  else
    wrF σ6 118 27 a1 fun σ11 =>
    bd2 (f_X10_chains σ11 (σ11 118 5)) fun v12 σ13 =>
    wrF σ13 118 27 (-1) fun σ15 =>
    if v12 = 0 then
      bd2 (f_X10_no σ15) fun v17 σ18 =>
      some (v17, σ18)
    else
      some (σ15 118 34, σ15)
def jn_X10_about_142 (kb : St → Int → Int → Int → Int → Int → Option (Int × St)) (σ : St) (x1 : Int) (x3 : Int) (x4 : Int) (x5 : Int) (x6 : Int) (x7 : Int) (t0 : Int) (t1 : Int) : Option (Int × St) :=
  bnd (t1 + t0) fun v23 =>
  bnd (x4 + x7) fun v24 =>
  bnd (if wI x5 < wI x7 then x7 else x5) fun v26 =>
  kb σ v23 x3 v24 v26 (x6 + 1)
def jn_X10_about_106 (kb : St → Int → Int → Int → Int → Int → Option (Int × St)) (σ : St) (x1 : Int) (x2 : Int) (x3 : Int) (x4 : Int) (x5 : Int) (x6 : Int) (t0 : Int) : Option (Int × St) :=
  if 0 < wI x6 then
    rdA 8 σ 141 (x6 - 1) fun v19 =>
    bd1 (f_X10_nextOf σ v19) fun v20 =>
    rdA 8 σ 141 x6 fun v21 =>
    jn_X10_about_142 (kb) σ x1 x3 x4 x5 x6 t0 (if wI v20 = wI v21 then 1 else 0) x2
  else
    jn_X10_about_142 (kb) σ x1 x3 x4 x5 x6 t0 0 x2
def lp_X10_about_48 (x1 : Int) (kx : St → Int → Int → Int → Int → Option (Int × St)) : Nat → St → Int → Int → Int → Int → Int → Option (Int × St)
  | 0, _, _, _, _, _, _ => none
  | n + 1, σ, x2, x3, x4, x5, x6 =>
    if wI x6 < wI (σ 118 3) then
      rdA 8 σ 141 x6 fun v14 =>
      bd1 (f_X10_fitAs σ (σ 118 5) v14 x6) fun v15 =>
      bnd (x3 + v15) fun v16 =>
      if wI x6 = 0 then
        jn_X10_about_106 (lp_X10_about_48 x1 kx n) σ x1 x2 v16 x4 x5 x6 0
      else
        rdA 8 σ 141 (x6 - 1) fun v29 =>
        rdA 8 σ 141 x6 fun v30 =>
        bd1 (f_X10_jointOf σ v29 v30) fun v31 =>
        jn_X10_about_106 (lp_X10_about_48 x1 kx n) σ x1 x2 v16 x4 x5 x6 v31
    else
      kx σ x2 x3 x4 x5
def f_X10_about (σ : St) (a1 : Int) : Option (Int × St) :=
if (f_X10_in (i2lI a1) 0 3) = 0 then
  bd2 (f_X10_bad σ (-2)) fun v3 σ4 =>
  some (v3, σ4)
else
  bd2 (f_X10_chainsNow σ) fun v5 σ6 =>
  if v5 = 0 then
    bd2 (f_X10_no σ6) fun v9 σ10 =>
    some (v9, σ10)
  else
    bd2 (f_X10_layChain σ6) fun v11 σ12 =>
    lp_X10_about_48 a1 (fun σ32 y33 y34 y35 y36 =>
        some ((if wI a1 = 0 then y33 else (if wI a1 = 1 then y34 else (if wI a1 = 2 then y35 else y36))), σ32)) 1000 σ12 0 0 0 0 0
def lp_X10_cheapest_36 (x1 : Int) (kx : St → Int → Int → Option (Int × St)) : Nat → St → Int → Int → Int → Option (Int × St)
  | 0, _, _, _, _ => none
  | n + 1, σ, x2, x3, x4 =>
    if wI x4 < 5 then
      bd2 (f_X10_chains σ x4) fun v12 σ13 =>
      bnd (if wI x3 = (-1) then 1 else (if wI (σ13 118 34) < wI x3 then 1 else 0)) fun v16 =>
      bnd (if v16 = 0 then x2 else x4) fun v18 =>
      bnd (if v16 = 0 then x3 else σ13 118 34) fun v20 =>
      lp_X10_cheapest_36 x1 kx n σ13 v18 v20 (x4 + 1)
    else
      kx σ x2 x3
def f_X10_cheapest (σ : St) (a1 : Int) : Option (Int × St) :=
if (f_X10_in (i2lI a1) 0 1) = 0 then
  bd2 (f_X10_bad σ (-2)) fun v3 σ4 =>
  some (v3, σ4)
else
  bd2 (f_X10_chainsNow σ) fun v5 σ6 =>
  if v5 = 0 then
    bd2 (f_X10_no σ6) fun v9 σ10 =>
    some (v9, σ10)
  else
    lp_X10_cheapest_36 a1 (fun σ25 y26 y27 =>
        some ((if wI a1 = 0 then y26 else y27), σ25)) 1000 σ6 0 (-1) 0
def f_X10_toldOf (σ0 : St) (a1 : Int) : Option Int :=
if wI a1 = 3 then
  some (σ0 118 14)
else
  if wI a1 = 4 then
    some (σ0 118 1)
  else
    if wI a1 = 5 then
      some (σ0 118 3)
    else
      if wI a1 = 6 then
        some (σ0 118 5)
      else
        rdA 3 σ0 126 a1 fun v5 =>
        some v5
def f_X10_told (σ : St) (a1 : Int) : Option (Int × St) :=
if (f_X10_in (i2lI a1) 0 6) = 0 then
  bd2 (f_X10_bad σ (-2)) fun v3 σ4 =>
  some (v3, σ4)
else
  bd1 (f_X10_toldOf σ a1) fun v5 =>
  some (v5, σ)
def lp_X10_sums_6 (σ0 : St) (x2 : Int) (x3 : Int) (kx : Int → Option Int) : Nat → Int → Int → Option Int
  | 0, _, _ => none
  | n + 1, x4, x6 =>
    if wI x6 < wI x3 then
      rdA (uvLn x2) σ0 x2 x6 fun v2 =>
      bnd ((31 * x4) + (i2lI v2)) fun v3 =>
      lp_X10_sums_6 σ0 x2 x3 kx n v3 (x6 + 1)
    else
      kx x4
def f_X10_sums (σ0 : St) (a0 : Int) (a2 : Int) (a3 : Int) : Option Int :=
lp_X10_sums_6 σ0 a2 a3 (fun y4 =>
    some y4) 1000 a0 0
def lp_X10_digest_6 (kx : St → Int → Option (Int × St)) : Nat → St → Int → Int → Option (Int × St)
  | 0, _, _, _ => none
  | n + 1, σ, x1, x3 =>
    if wI x3 < 7 then
      bd1 (f_X10_toldOf σ x3) fun v2 =>
      bnd ((31 * x1) + (i2lI v2)) fun v3 =>
      lp_X10_digest_6 kx n σ v3 (x3 + 1)
    else
      kx σ x1
def f_X10_digest (σ : St)  : Option (Int × St) :=
lp_X10_digest_6 (fun σ4 y5 =>
    bd1 (f_X10_sums σ4 y5 119 (6 * (σ4 118 1))) fun v6 =>
    bd1 (f_X10_sums σ4 v6 121 6) fun v7 =>
    bd1 (f_X10_sums σ4 v7 120 (3 * (σ4 118 3))) fun v8 =>
    bnd ((31 * ((31 * v8) + (i2lI (σ4 118 10)))) + (i2lI (σ4 118 11))) fun v9 =>
    bd2 (f_X10_chainsNow σ4) fun v10 σ11 =>
    if v10 = 0 then
      some ((31 * v9) - 1, σ11)
    else
      bd2 (f_X10_layChain σ11) fun v14 σ15 =>
      bd1 (f_X10_sums σ15 ((31 * v9) + (i2lI (σ11 118 34))) 141 (σ15 118 3)) fun v16 =>
      some (v16, σ15)) 1000 σ 1987 0
end
section
def st_0 : St := fun _ _ => 0
def st_1 : St := upS st_0 1001 0 3
def st_2 : St := upS st_1 1001 1 4
def st_3 : St := upS st_2 1001 2 5
def st_4 : St := upS st_3 1001 3 6
def st_5 : St := upS st_4 1001 4 7
def st_6 : St := upS st_5 1001 5 8
def st_7 : St := upS st_6 1001 6 9
def st_8 : St := upS st_7 1001 7 10
def st_9 : St := upS st_8 1 8 0
def st_10 : St := upS st_9 9 0 (-1)
def st_11 : St := upS st_10 9 1 (-1)
def st_12 : St := upS st_11 9 2 (-1)
def st_13 : St := upS st_12 9 3 (-1)
def st_14 : St := upS st_13 1000 0 2
def st_15 : St := upS st_14 1010 0 12
def st_16 : St := upS st_15 1010 1 13
def st_17 : St := upS st_16 1010 2 14
def st_18 : St := upS st_17 1000 1 11
def st_19 : St := upS st_18 1014 0 16
def st_20 : St := upS st_19 1014 1 17
def st_21 : St := upS st_20 1014 2 18
def st_22 : St := upS st_21 1014 3 19
def st_23 : St := upS st_22 1014 4 20
def st_24 : St := upS st_23 1014 5 21
def st_25 : St := upS st_24 15 0 42
def st_26 : St := upS st_25 16 0 0
def st_27 : St := upS st_26 17 0 (-1)
def st_28 : St := upS st_27 18 0 (-1)
def st_29 : St := upS st_28 19 0 (-1)
def st_30 : St := upS st_29 20 0 (-1)
def st_31 : St := upS st_30 14 6 1
def st_32 : St := upS st_31 20 0 0
def st_33 : St := upS st_32 14 7 1
def st_34 : St := upS st_33 1000 2 15
def st_35 : St := upS st_34 1021 0 23
def st_36 : St := upS st_35 1023 0 25
def st_37 : St := upS st_36 1023 1 26
def st_38 : St := upS st_37 1023 2 27
def st_39 : St := upS st_38 1021 1 24
def st_40 : St := upS st_39 1027 0 29
def st_41 : St := upS st_40 1027 1 30
def st_42 : St := upS st_41 1027 2 31
def st_43 : St := upS st_42 1027 3 32
def st_44 : St := upS st_43 1027 4 33
def st_45 : St := upS st_44 1027 5 34
def st_46 : St := upS st_45 28 0 42
def st_47 : St := upS st_46 29 0 0
def st_48 : St := upS st_47 30 0 (-1)
def st_49 : St := upS st_48 31 0 (-1)
def st_50 : St := upS st_49 32 0 (-1)
def st_51 : St := upS st_50 33 0 (-1)
def st_52 : St := upS st_51 27 6 1
def st_53 : St := upS st_52 33 0 0
def st_54 : St := upS st_53 27 7 1
def st_55 : St := upS st_54 1021 2 28
def st_56 : St := upS st_55 1000 3 22
def st_57 : St := upS st_56 1000 4 35
def st_58 : St := upS st_57 34 0 0
def st_59 : St := upS st_58 34 1 1
def st_60 : St := upS st_59 34 2 2
def st_61 : St := upS st_60 34 3 3
def st_62 : St := upS st_61 34 4 4
def st_63 : St := upS st_62 34 5 5
def st_64 : St := upS st_63 1035 4 37
def st_65 : St := upS st_64 1035 5 38
def st_66 : St := upS st_65 1035 0 2
def st_67 : St := upS st_66 1035 1 11
def st_68 : St := upS st_67 1035 2 15
def st_69 : St := upS st_68 1035 3 35
def st_70 : St := upS st_69 1038 0 40
def st_71 : St := upS st_70 1037 0 39
def st_72 : St := upS st_71 1040 0 42
def st_73 : St := upS st_72 1037 1 41
def st_74 : St := upS st_73 1042 0 44
def st_75 : St := upS st_74 1037 2 43
def st_76 : St := upS st_75 1044 0 46
def st_77 : St := upS st_76 1037 3 45
def st_78 : St := upS st_77 1046 0 48
def st_79 : St := upS st_78 1037 4 47
def st_80 : St := upS st_79 1048 0 50
def st_81 : St := upS st_80 1037 5 49
def st_82 : St := upS st_81 1050 0 52
def st_83 : St := upS st_82 1037 6 51
def st_84 : St := upS st_83 1052 0 54
def st_85 : St := upS st_84 1037 7 53
def st_86 : St := upS st_85 1000 5 36
def st_87 : St := upS st_86 1054 0 2
def st_88 : St := upS st_87 1054 1 11
def st_89 : St := upS st_88 1000 6 55
def st_90 : St := upS st_89 1055 3 57
def st_91 : St := upS st_90 1057 0 59
def st_92 : St := upS st_91 1057 1 60
def st_93 : St := upS st_92 1057 2 61
def st_94 : St := upS st_93 1057 3 62
def st_95 : St := upS st_94 1057 4 63
def st_96 : St := upS st_95 1055 4 58
def st_97 : St := upS st_96 1063 0 65
def st_98 : St := upS st_97 1063 1 66
def st_99 : St := upS st_98 1063 2 67
def st_100 : St := upS st_99 1063 3 68
def st_101 : St := upS st_100 1063 4 69
def st_102 : St := upS st_101 1055 5 64
def st_103 : St := upS st_102 1055 6 70
def st_104 : St := upS st_103 1055 0 11
def st_105 : St := upS st_104 1055 1 38
def st_106 : St := upS st_105 1055 2 55
def st_107 : St := upS st_106 1070 0 72
def st_108 : St := upS st_107 1070 1 73
def st_109 : St := upS st_108 1070 2 74
def st_110 : St := upS st_109 1070 3 75
def st_111 : St := upS st_110 1070 4 76
def st_112 : St := upS st_111 1056 0 71
def st_113 : St := upS st_112 1076 0 78
def st_114 : St := upS st_113 1076 1 79
def st_115 : St := upS st_114 1076 2 80
def st_116 : St := upS st_115 1076 3 81
def st_117 : St := upS st_116 1076 4 82
def st_118 : St := upS st_117 1056 1 77
def st_119 : St := upS st_118 1082 0 84
def st_120 : St := upS st_119 1082 1 85
def st_121 : St := upS st_120 1082 2 86
def st_122 : St := upS st_121 1082 3 87
def st_123 : St := upS st_122 1082 4 88
def st_124 : St := upS st_123 1056 2 83
def st_125 : St := upS st_124 1088 0 90
def st_126 : St := upS st_125 1088 1 91
def st_127 : St := upS st_126 1088 2 92
def st_128 : St := upS st_127 1088 3 93
def st_129 : St := upS st_128 1088 4 94
def st_130 : St := upS st_129 1056 3 89
def st_131 : St := upS st_130 1094 0 96
def st_132 : St := upS st_131 1094 1 97
def st_133 : St := upS st_132 1094 2 98
def st_134 : St := upS st_133 1094 3 99
def st_135 : St := upS st_134 1094 4 100
def st_136 : St := upS st_135 1056 4 95
def st_137 : St := upS st_136 1100 0 102
def st_138 : St := upS st_137 1100 1 103
def st_139 : St := upS st_138 1100 2 104
def st_140 : St := upS st_139 1100 3 105
def st_141 : St := upS st_140 1100 4 106
def st_142 : St := upS st_141 1056 5 101
def st_143 : St := upS st_142 1106 0 108
def st_144 : St := upS st_143 1106 1 109
def st_145 : St := upS st_144 1106 2 110
def st_146 : St := upS st_145 1106 3 111
def st_147 : St := upS st_146 1106 4 112
def st_148 : St := upS st_147 1056 6 107
def st_149 : St := upS st_148 1112 0 114
def st_150 : St := upS st_149 1112 1 115
def st_151 : St := upS st_150 1112 2 116
def st_152 : St := upS st_151 1112 3 117
def st_153 : St := upS st_152 1112 4 118
def st_154 : St := upS st_153 1056 7 113
def st_155 : St := upS st_154 64 0 1000000
def st_156 : St := upS st_155 65 0 1000000
def st_157 : St := upS st_156 66 0 0
def st_158 : St := upS st_157 67 0 0
def st_159 : St := upS st_158 68 0 0
def st_160 : St := upS st_159 64 0 0
def st_161 : St := upS st_160 67 0 1
def st_162 : St := upS st_161 1000 7 56
def st_163 : St := upS st_162 1118 0 120
def st_164 : St := upS st_163 1118 2 121
def st_165 : St := upS st_164 1118 4 122
def st_166 : St := upS st_165 1118 6 123
def st_167 : St := upS st_166 1118 7 124
def st_168 : St := upS st_167 1118 8 125
def st_169 : St := upS st_168 1118 9 126
def st_170 : St := upS st_169 118 10 1
def st_171 : St := upS st_170 1118 12 127
def st_172 : St := upS st_171 1118 13 128
def st_173 : St := upS st_172 1118 16 129
def st_174 : St := upS st_173 1118 17 130
def st_175 : St := upS st_174 1118 18 131
def st_176 : St := upS st_175 1118 19 132
def st_177 : St := upS st_176 1118 20 133
def st_178 : St := upS st_177 1118 23 134
def st_179 : St := upS st_178 1118 24 135
def st_180 : St := upS st_179 1118 25 136
def st_181 : St := upS st_180 1118 26 137
def st_182 : St := upS st_181 118 27 (-1)
def st_183 : St := upS st_182 1118 30 138
def st_184 : St := upS st_183 1118 31 139
def st_185 : St := upS st_184 1118 32 140
def st_186 : St := upS st_185 1118 33 141
def st_187 : St := upS st_186 1118 38 142
def st_188 : St := upS st_187 121 0 0
def st_189 : St := upS st_188 121 1 1
def st_190 : St := upS st_189 121 2 2
def st_191 : St := upS st_190 121 3 3
def st_192 : St := upS st_191 121 4 4
def st_193 : St := upS st_192 121 5 5
def rdS {α : Type} (L : Nat) (xs : Nat → Int32) (i : Int) (k : Int → Option α) : Option α := if 0 ≤ i ∧ i < L then k (xs i.toNat).toInt else none
def lp_L_law_18 (L : Nat) (xs : Nat → Int32) (kx : St → Option (Int × St)) : Nat → St → Int → Option (Int × St)
  | 0, _, _ => none
  | n + 1, σ, x3 =>
    if wI (L - 7) < wI x3 then
      kx σ
    else
      rdS L xs x3 fun v2 =>
      if wI (andI v2 31) = 0 then
        rdS L xs (x3 + 1) fun v4 =>
        rdS L xs (x3 + 2) fun v5 =>
        rdS L xs (x3 + 3) fun v6 =>
        rdS L xs (x3 + 4) fun v7 =>
        rdS L xs (x3 + 5) fun v8 =>
        rdS L xs (x3 + 6) fun v9 =>
        bd2 (f_X9_unit σ v4 v5 v6 v7 v8 v9) fun v10 σ11 =>
        rdS L xs (x3 + 1) fun v12 =>
        rdS L xs (x3 + 2) fun v13 =>
        rdS L xs (x3 + 3) fun v14 =>
        rdS L xs (x3 + 4) fun v15 =>
        rdS L xs (x3 + 5) fun v16 =>
        rdS L xs (x3 + 6) fun v17 =>
        bd2 (f_X10_unit σ11 v12 v13 v14 v15 v16 v17) fun v18 σ19 =>
        if wI v10 = wI v18 then
          lp_L_law_18 L xs kx n σ19 (x3 + 7)
        else
          some (0, σ19)
      else
        if wI (andI v2 31) = 1 then
          rdS L xs (x3 + 1) fun v22 =>
          rdS L xs (x3 + 2) fun v23 =>
          rdS L xs (x3 + 3) fun v24 =>
          bd2 (f_X9_records σ v22 v23 v24) fun v25 σ26 =>
          rdS L xs (x3 + 1) fun v27 =>
          rdS L xs (x3 + 2) fun v28 =>
          rdS L xs (x3 + 3) fun v29 =>
          bd2 (f_X10_records σ26 v27 v28 v29) fun v30 σ31 =>
          if wI v25 = wI v30 then
            lp_L_law_18 L xs kx n σ31 (x3 + 7)
          else
            some (0, σ31)
        else
          if wI (andI v2 31) = 2 then
            rdS L xs (x3 + 1) fun v34 =>
            rdS L xs (x3 + 2) fun v35 =>
            bd2 (f_X9_of σ v34 v35) fun v36 σ37 =>
            rdS L xs (x3 + 1) fun v38 =>
            rdS L xs (x3 + 2) fun v39 =>
            bd2 (f_X10_of σ37 v38 v39) fun v40 σ41 =>
            if wI v36 = wI v40 then
              lp_L_law_18 L xs kx n σ41 (x3 + 7)
            else
              some (0, σ41)
          else
            if wI (andI v2 31) = 3 then
              bd2 (f_X9_empties σ) fun v44 σ45 =>
              bd2 (f_X10_empties σ45) fun v46 σ47 =>
              if wI v44 = wI v46 then
                lp_L_law_18 L xs kx n σ47 (x3 + 7)
              else
                some (0, σ47)
            else
              if wI (andI v2 31) = 4 then
                rdS L xs (x3 + 1) fun v50 =>
                rdS L xs (x3 + 2) fun v51 =>
                bd2 (f_X9_other σ v50 v51) fun v52 σ53 =>
                rdS L xs (x3 + 1) fun v54 =>
                rdS L xs (x3 + 2) fun v55 =>
                bd2 (f_X10_other σ53 v54 v55) fun v56 σ57 =>
                if wI v52 = wI v56 then
                  lp_L_law_18 L xs kx n σ57 (x3 + 7)
                else
                  some (0, σ57)
              else
                if wI (andI v2 31) = 5 then
                  rdS L xs (x3 + 1) fun v60 =>
                  bd2 (f_X9_fitter σ v60) fun v61 σ62 =>
                  rdS L xs (x3 + 1) fun v63 =>
                  bd2 (f_X10_fitter σ62 v63) fun v64 σ65 =>
                  if wI v61 = wI v64 then
                    lp_L_law_18 L xs kx n σ65 (x3 + 7)
                  else
                    some (0, σ65)
                else
                  if wI (andI v2 31) = 6 then
                    rdS L xs (x3 + 1) fun v68 =>
                    bd2 (f_X9_type σ v68) fun v69 σ70 =>
                    rdS L xs (x3 + 1) fun v71 =>
                    bd2 (f_X10_type σ70 v71) fun v72 σ73 =>
                    if wI v69 = wI v72 then
                      lp_L_law_18 L xs kx n σ73 (x3 + 7)
                    else
                      some (0, σ73)
                  else
                    if wI (andI v2 31) = 7 then
                      bd2 (f_X9_clear σ) fun v76 σ77 =>
                      bd2 (f_X10_clear σ77) fun v78 σ79 =>
                      if wI v76 = wI v78 then
                        lp_L_law_18 L xs kx n σ79 (x3 + 7)
                      else
                        some (0, σ79)
                    else
                      if wI (andI v2 31) = 8 then
                        bd2 (f_X9_reads σ) fun v82 σ83 =>
                        bd2 (f_X10_reads σ83) fun v84 σ85 =>
                        if wI v82 = wI v84 then
                          lp_L_law_18 L xs kx n σ85 (x3 + 7)
                        else
                          some (0, σ85)
                      else
                        if wI (andI v2 31) = 9 then
                          rdS L xs (x3 + 1) fun v88 =>
                          rdS L xs (x3 + 2) fun v89 =>
                          bd2 (f_X9_target σ v88 v89) fun v90 σ91 =>
                          rdS L xs (x3 + 1) fun v92 =>
                          rdS L xs (x3 + 2) fun v93 =>
                          bd2 (f_X10_target σ91 v92 v93) fun v94 σ95 =>
                          if wI v90 = wI v94 then
                            lp_L_law_18 L xs kx n σ95 (x3 + 7)
                          else
                            some (0, σ95)
                        else
                          if wI (andI v2 31) = 10 then
                            rdS L xs (x3 + 1) fun v98 =>
                            bd2 (f_X9_tree σ v98) fun v99 σ100 =>
                            rdS L xs (x3 + 1) fun v101 =>
                            bd2 (f_X10_tree σ100 v101) fun v102 σ103 =>
                            if wI v99 = wI v102 then
                              lp_L_law_18 L xs kx n σ103 (x3 + 7)
                            else
                              some (0, σ103)
                          else
                            if wI (andI v2 31) = 11 then
                              rdS L xs (x3 + 1) fun v106 =>
                              rdS L xs (x3 + 2) fun v107 =>
                              bd2 (f_X9_leaf σ v106 v107) fun v108 σ109 =>
                              rdS L xs (x3 + 1) fun v110 =>
                              rdS L xs (x3 + 2) fun v111 =>
                              bd2 (f_X10_leaf σ109 v110 v111) fun v112 σ113 =>
                              if wI v108 = wI v112 then
                                lp_L_law_18 L xs kx n σ113 (x3 + 7)
                              else
                                some (0, σ113)
                            else
                              if wI (andI v2 31) = 12 then
                                rdS L xs (x3 + 1) fun v116 =>
                                rdS L xs (x3 + 2) fun v117 =>
                                bd2 (f_X9_choice σ v116 v117) fun v118 σ119 =>
                                rdS L xs (x3 + 1) fun v120 =>
                                rdS L xs (x3 + 2) fun v121 =>
                                bd2 (f_X10_choice σ119 v120 v121) fun v122 σ123 =>
                                if wI v118 = wI v122 then
                                  lp_L_law_18 L xs kx n σ123 (x3 + 7)
                                else
                                  some (0, σ123)
                              else
                                if wI (andI v2 31) = 13 then
                                  rdS L xs (x3 + 1) fun v126 =>
                                  bd2 (f_X9_steps σ v126) fun v127 σ128 =>
                                  rdS L xs (x3 + 1) fun v129 =>
                                  bd2 (f_X10_steps σ128 v129) fun v130 σ131 =>
                                  if wI v127 = wI v130 then
                                    lp_L_law_18 L xs kx n σ131 (x3 + 7)
                                  else
                                    some (0, σ131)
                                else
                                  if wI (andI v2 31) = 14 then
                                    rdS L xs (x3 + 1) fun v134 =>
                                    bd2 (f_X9_tried σ v134) fun v135 σ136 =>
                                    rdS L xs (x3 + 1) fun v137 =>
                                    bd2 (f_X10_tried σ136 v137) fun v138 σ139 =>
                                    if wI v135 = wI v138 then
                                      lp_L_law_18 L xs kx n σ139 (x3 + 7)
                                    else
                                      some (0, σ139)
                                  else
                                    if wI (andI v2 31) = 15 then
                                      rdS L xs (x3 + 1) fun v142 =>
                                      rdS L xs (x3 + 2) fun v143 =>
                                      bd2 (f_X9_fit σ v142 v143) fun v144 σ145 =>
                                      rdS L xs (x3 + 1) fun v146 =>
                                      rdS L xs (x3 + 2) fun v147 =>
                                      bd2 (f_X10_fit σ145 v146 v147) fun v148 σ149 =>
                                      if wI v144 = wI v148 then
                                        lp_L_law_18 L xs kx n σ149 (x3 + 7)
                                      else
                                        some (0, σ149)
                                    else
                                      if wI (andI v2 31) = 16 then
                                        rdS L xs (x3 + 1) fun v152 =>
                                        rdS L xs (x3 + 2) fun v153 =>
                                        bd2 (f_X9_joint σ v152 v153) fun v154 σ155 =>
                                        rdS L xs (x3 + 1) fun v156 =>
                                        rdS L xs (x3 + 2) fun v157 =>
                                        bd2 (f_X10_joint σ155 v156 v157) fun v158 σ159 =>
                                        if wI v154 = wI v158 then
                                          lp_L_law_18 L xs kx n σ159 (x3 + 7)
                                        else
                                          some (0, σ159)
                                      else
                                        if wI (andI v2 31) = 17 then
                                          bd2 (f_X9_cost σ) fun v162 σ163 =>
                                          bd2 (f_X10_cost σ163) fun v164 σ165 =>
                                          if wI v162 = wI v164 then
                                            lp_L_law_18 L xs kx n σ165 (x3 + 7)
                                          else
                                            some (0, σ165)
                                        else
                                          if wI (andI v2 31) = 18 then
                                            rdS L xs (x3 + 1) fun v168 =>
                                            bd2 (f_X9_chain σ v168) fun v169 σ170 =>
                                            rdS L xs (x3 + 1) fun v171 =>
                                            bd2 (f_X10_chain σ170 v171) fun v172 σ173 =>
                                            if wI v169 = wI v172 then
                                              lp_L_law_18 L xs kx n σ173 (x3 + 7)
                                            else
                                              some (0, σ173)
                                          else
                                            if wI (andI v2 31) = 19 then
                                              bd2 (f_X9_ways σ) fun v176 σ177 =>
                                              bd2 (f_X10_ways σ177) fun v178 σ179 =>
                                              if wI v176 = wI v178 then
                                                lp_L_law_18 L xs kx n σ179 (x3 + 7)
                                              else
                                                some (0, σ179)
                                            else
                                              if wI (andI v2 31) = 20 then
                                                bd2 (f_X9_next σ) fun v182 σ183 =>
                                                bd2 (f_X10_next σ183) fun v184 σ185 =>
                                                if wI v182 = wI v184 then
                                                  lp_L_law_18 L xs kx n σ185 (x3 + 7)
                                                else
                                                  some (0, σ185)
                                              else
                                                if wI (andI v2 31) = 21 then
                                                  bd2 (f_X9_dearest σ) fun v188 σ189 =>
                                                  bd2 (f_X10_dearest σ189) fun v190 σ191 =>
                                                  if wI v188 = wI v190 then
                                                    lp_L_law_18 L xs kx n σ191 (x3 + 7)
                                                  else
                                                    some (0, σ191)
                                                else
                                                  if wI (andI v2 31) = 22 then
                                                    rdS L xs (x3 + 1) fun v194 =>
                                                    bd2 (f_X9_without σ v194) fun v195 σ196 =>
                                                    rdS L xs (x3 + 1) fun v197 =>
                                                    bd2 (f_X10_without σ196 v197) fun v198 σ199 =>
                                                    if wI v195 = wI v198 then
                                                      lp_L_law_18 L xs kx n σ199 (x3 + 7)
                                                    else
                                                      some (0, σ199)
                                                  else
                                                    if wI (andI v2 31) = 23 then
                                                      rdS L xs (x3 + 1) fun v202 =>
                                                      bd2 (f_X9_about σ v202) fun v203 σ204 =>
                                                      rdS L xs (x3 + 1) fun v205 =>
                                                      bd2 (f_X10_about σ204 v205) fun v206 σ207 =>
                                                      if wI v203 = wI v206 then
                                                        lp_L_law_18 L xs kx n σ207 (x3 + 7)
                                                      else
                                                        some (0, σ207)
                                                    else
                                                      if wI (andI v2 31) = 24 then
                                                        rdS L xs (x3 + 1) fun v210 =>
                                                        bd2 (f_X9_cheapest σ v210) fun v211 σ212 =>
                                                        rdS L xs (x3 + 1) fun v213 =>
                                                        bd2 (f_X10_cheapest σ212 v213) fun v214 σ215 =>
                                                        if wI v211 = wI v214 then
                                                          lp_L_law_18 L xs kx n σ215 (x3 + 7)
                                                        else
                                                          some (0, σ215)
                                                      else
                                                        if wI (andI v2 31) = 25 then
                                                          rdS L xs (x3 + 1) fun v218 =>
                                                          bd2 (f_X9_told σ v218) fun v219 σ220 =>
                                                          rdS L xs (x3 + 1) fun v221 =>
                                                          bd2 (f_X10_told σ220 v221) fun v222 σ223 =>
                                                          if wI v219 = wI v222 then
                                                            lp_L_law_18 L xs kx n σ223 (x3 + 7)
                                                          else
                                                            some (0, σ223)
                                                        else
                                                          if wI (andI v2 31) = 26 then
                                                            bd2 (f_X9_digest σ) fun v226 σ227 =>
                                                            bd2 (f_X10_digest σ227) fun v228 σ229 =>
                                                            if cmpL v226 v228 = 0 then
                                                              lp_L_law_18 L xs kx n σ229 (x3 + 7)
                                                            else
                                                              some (0, σ229)
                                                          else
                                                            lp_L_law_18 L xs kx n σ (x3 + 7)
def f_L_law (L : Nat) (xs : Nat → Int32) (σ : St) : Option (Int × St) :=
  lp_L_law_18 L xs (fun σ231 =>
      some (1, σ231)) 600 σ 0
end
section
/-! ===== pure: evaluation of the mirrors ===== -/
def inR (x : Int) : Prop := -2147483648 ≤ x ∧ x ≤ 2147483647
theorem rdA_t {α : Type} {n : Nat} {σ : St} {o i : Int} {k : Int → Option α} (h : 0 ≤ i ∧ i < n) : rdA n σ o i k = k (σ o i) := if_pos h
theorem wrA_t {α : Type} {n : Nat} {σ : St} {o i x : Int} {k : St → Option α} (h : 0 ≤ i ∧ i < n) : wrA n σ o i x k = k (upS σ o i x) := if_pos h
theorem ixA_t {α : Type} {n : Nat} {i : Int} {k : Option α} (h : 0 ≤ i ∧ i < n) : ixA n i k = k := if_pos h
theorem wrF_d {α : Type} {σ : St} {o i x : Int} {k : St → α} : wrF σ o i x k = k (upS σ o i x) := rfl
theorem bnd_d {α : Type} {a : Int} {k : Int → α} : bnd a k = k a := rfl
theorem bd2_s {α : Type} {r : Int} {σ : St} {k : Int → St → Option α} : bd2 (some (r, σ)) k = k r σ := rfl
theorem bd1_s {α : Type} {r : Int} {k : Int → Option α} : bd1 (some r) k = k r := rfl
theorem upS_h {σ : St} {o i x o' i' : Int} (h : o' = o ∧ i' = i) : upS σ o i x o' i' = x := if_pos h
theorem upS_o {σ : St} {o i x o' i' : Int} (h : ¬ o' = o) : upS σ o i x o' i' = σ o' i' := if_neg (fun q => h q.1)
theorem upS_i {σ : St} {o i x o' i' : Int} (h : ¬ i' = i) : upS σ o i x o' i' = σ o' i' := if_neg (fun q => h q.2)
theorem iww_t {α : Type} {x y : Int} {a b : α} (h : (-2147483648 ≤ x ∧ x ≤ 2147483647 ∧ -2147483648 ≤ y ∧ y ≤ 2147483647) ∧ x < y) : (if wI x < wI y then a else b) = a := by
  rw [wI_id h.1.1 h.1.2.1, wI_id h.1.2.2.1 h.1.2.2.2]; exact if_pos h.2
theorem iww_f {α : Type} {x y : Int} {a b : α} (h : (-2147483648 ≤ x ∧ x ≤ 2147483647 ∧ -2147483648 ≤ y ∧ y ≤ 2147483647) ∧ ¬ x < y) : (if wI x < wI y then a else b) = b := by
  rw [wI_id h.1.1 h.1.2.1, wI_id h.1.2.2.1 h.1.2.2.2]; exact if_neg h.2
theorem iwl_t {α : Type} {x y : Int} {a b : α} (h : (-2147483648 ≤ x ∧ x ≤ 2147483647) ∧ x < y) : (if wI x < y then a else b) = a := by
  rw [wI_id h.1.1 h.1.2]; exact if_pos h.2
theorem iwl_f {α : Type} {x y : Int} {a b : α} (h : (-2147483648 ≤ x ∧ x ≤ 2147483647) ∧ ¬ x < y) : (if wI x < y then a else b) = b := by
  rw [wI_id h.1.1 h.1.2]; exact if_neg h.2
theorem ilw_t {α : Type} {x y : Int} {a b : α} (h : (-2147483648 ≤ y ∧ y ≤ 2147483647) ∧ x < y) : (if x < wI y then a else b) = a := by
  rw [wI_id h.1.1 h.1.2]; exact if_pos h.2
theorem ilw_f {α : Type} {x y : Int} {a b : α} (h : (-2147483648 ≤ y ∧ y ≤ 2147483647) ∧ ¬ x < y) : (if x < wI y then a else b) = b := by
  rw [wI_id h.1.1 h.1.2]; exact if_neg h.2
theorem eww_t {α : Type} {x y : Int} {a b : α} (h : x = y) : (if wI x = wI y then a else b) = a := if_pos (by rw [h])
theorem eww_f {α : Type} {x y : Int} {a b : α} (h : (-2147483648 ≤ x ∧ x ≤ 2147483647 ∧ -2147483648 ≤ y ∧ y ≤ 2147483647) ∧ ¬ x = y) : (if wI x = wI y then a else b) = b := by
  rw [wI_id h.1.1 h.1.2.1, wI_id h.1.2.2.1 h.1.2.2.2]; exact if_neg h.2
theorem ewl_t {α : Type} {x y : Int} {a b : α} (h : (-2147483648 ≤ x ∧ x ≤ 2147483647) ∧ x = y) : (if wI x = y then a else b) = a := by
  rw [wI_id h.1.1 h.1.2]; exact if_pos h.2
theorem ewl_f {α : Type} {x y : Int} {a b : α} (h : (-2147483648 ≤ x ∧ x ≤ 2147483647) ∧ ¬ x = y) : (if wI x = y then a else b) = b := by
  rw [wI_id h.1.1 h.1.2]; exact if_neg h.2
theorem il_t {α : Type} {x y : Int} {a b : α} (h : x < y) : (if x < y then a else b) = a := if_pos h
theorem il_f {α : Type} {x y : Int} {a b : α} (h : ¬ x < y) : (if x < y then a else b) = b := if_neg h
theorem ez_t {α : Type} {x y : Int} {a b : α} (h : x = y) : (if x = y then a else b) = a := if_pos h
theorem ez_f {α : Type} {x y : Int} {a b : α} (h : ¬ x = y) : (if x = y then a else b) = b := if_neg h
/-! small functions -/
theorem within_t {a b c : Int} (h : (-2147483648 ≤ b ∧ c ≤ 2147483647) ∧ b ≤ a ∧ a ≤ c) : f_X9_within a b c = 1 := by
  unfold f_X9_within
  rw [wI_id (x := a) (by omega) (by omega), wI_id (x := b) (by omega) (by omega), wI_id (x := c) (by omega) (by omega), if_neg (by omega), if_neg (by omega)]
theorem within_f {a b c : Int} (h : (-2147483648 ≤ a ∧ a ≤ 2147483647) ∧ (-2147483648 ≤ b ∧ b ≤ 2147483647) ∧ (-2147483648 ≤ c ∧ c ≤ 2147483647) ∧ ¬ (b ≤ a ∧ a ≤ c)) : f_X9_within a b c = 0 := by
  unfold f_X9_within
  rw [wI_id (x := a) (by omega) (by omega), wI_id (x := b) (by omega) (by omega), wI_id (x := c) (by omega) (by omega)]
  by_cases h1 : a < b
  · rw [if_pos h1]
  · rw [if_neg h1, if_pos (by omega)]
theorem cmpL_lt {a b : Int} (h : (-2147483648 ≤ a ∧ a ≤ 2147483647) ∧ (-2147483648 ≤ b ∧ b ≤ 2147483647)) : cmpL (i2lI a) b = if b < a then 1 else if a = b then 0 else -1 := by
  unfold cmpL i2lI
  rw [wI_id h.1.1 h.1.2, wL_id (x := a) (by omega) (by omega), wL_id (x := b) (by omega) (by omega)]
theorem in_t {a b c : Int} (h : (-2147483648 ≤ b ∧ c ≤ 2147483647) ∧ b ≤ a ∧ a ≤ c) : f_X10_in (i2lI a) b c = 1 := by
  unfold f_X10_in
  rw [cmpL_lt ⟨by omega, by omega⟩, cmpL_lt ⟨by omega, by omega⟩]
  have h1 : ¬ (if b < a then (1 : Int) else if a = b then 0 else -1) < 0 := by
    by_cases q : b < a
    · rw [if_pos q]; omega
    · rw [if_neg q, if_pos (by omega)]; omega
  have h2 : ¬ 0 < (if c < a then (1 : Int) else if a = c then 0 else -1) := by
    rw [if_neg (by omega)]
    by_cases q : a = c
    · rw [if_pos q]; omega
    · rw [if_neg q]; omega
  rw [if_neg h1, if_neg h2]
theorem in_f {a b c : Int} (h : (-2147483648 ≤ a ∧ a ≤ 2147483647) ∧ (-2147483648 ≤ b ∧ b ≤ 2147483647) ∧ (-2147483648 ≤ c ∧ c ≤ 2147483647) ∧ ¬ (b ≤ a ∧ a ≤ c)) : f_X10_in (i2lI a) b c = 0 := by
  unfold f_X10_in
  rw [cmpL_lt ⟨h.1, h.2.1⟩, cmpL_lt ⟨h.1, h.2.2.1⟩]
  by_cases q : a < b
  · rw [if_pos]
    rw [if_neg (by omega), if_neg (by omega)]; omega
  · by_cases q2 : b < a
    · rw [if_neg (by rw [if_pos q2]; omega), if_pos]
      rw [if_pos (by omega)]; omega
    · rw [if_neg (by rw [if_neg q2, if_pos (by omega)]; omega), if_pos]
      rw [if_pos (by omega)]; omega
theorem i2l_r {a : Int} (h : -2147483648 ≤ a ∧ a ≤ 2147483647) : i2lI a = a := wI_id h.1 h.2
theorem in_t2 {a b c : Int} (h : (-2147483648 ≤ b ∧ b ≤ 2147483647 ∧ -2147483648 ≤ c ∧ c ≤ 2147483647) ∧ b ≤ a ∧ a ≤ c) : f_X10_in (i2lI a) b (i2lI c) = 1 := by
  rw [i2l_r (a := c) (by omega)]; exact in_t (by omega)
theorem in_f2 {a b c : Int} (h : (-2147483648 ≤ a ∧ a ≤ 2147483647) ∧ (-2147483648 ≤ b ∧ b ≤ 2147483647) ∧ (-2147483648 ≤ c ∧ c ≤ 2147483647) ∧ ¬ (b ≤ a ∧ a ≤ c)) : f_X10_in (i2lI a) b (i2lI c) = 0 := by
  rw [i2l_r (a := c) (by omega)]; exact in_f (by omega)
theorem in_t3 {a b c : Int} (h : (-2147483648 ≤ b ∧ b ≤ 2147483647 ∧ -2147483648 ≤ c ∧ c ≤ 2147483647) ∧ b ≤ a ∧ a ≤ c) : f_X10_in (i2lI a) (i2lI b) (i2lI c) = 1 := by
  rw [i2l_r (a := b) (by omega)]; exact in_t2 (by omega)
theorem in_f3 {a b c : Int} (h : (-2147483648 ≤ a ∧ a ≤ 2147483647) ∧ (-2147483648 ≤ b ∧ b ≤ 2147483647) ∧ (-2147483648 ≤ c ∧ c ≤ 2147483647) ∧ ¬ (b ≤ a ∧ a ≤ c)) : f_X10_in (i2lI a) (i2lI b) (i2lI c) = 0 := by
  rw [i2l_r (a := b) (by omega)]; exact in_f2 (by omega)
theorem max_e {a b : Int} (h : -2147483648 ≤ a ∧ a ≤ 2147483647 ∧ -2147483648 ≤ b ∧ b ≤ 2147483647) : f_J9_max_7cf53 a b = if a < b then b else a := by
  unfold f_J9_max_7cf53
  rw [wI_id (x := a) (by omega) (by omega), wI_id (x := b) (by omega) (by omega)]
theorem min_e {a b : Int} (h : -2147483648 ≤ a ∧ a ≤ 2147483647 ∧ -2147483648 ≤ b ∧ b ≤ 2147483647) : f_J9_min_7cf53 a b = if b < a then b else a := by
  unfold f_J9_min_7cf53
  rw [wI_id (x := a) (by omega) (by omega), wI_id (x := b) (by omega) (by omega)]
theorem abs_e {a : Int} (h : -2147483648 ≤ a ∧ a ≤ 2147483647) : f_J9_abs_0f7a4 a = if a < 0 then 0 - a else a := by
  unfold f_J9_abs_0f7a4
  rw [wI_id (x := a) (by omega) (by omega)]
theorem far_e {a b : Int} (h : -2147483648 ≤ a ∧ a ≤ 2147483647 ∧ -2147483648 ≤ b ∧ b ≤ 2147483647) : f_X10_far a b = if b < a then a - b else b - a := by
  unfold f_X10_far
  rw [wI_id (x := a) (by omega) (by omega), wI_id (x := b) (by omega) (by omega)]
/-! ===== the abstract store, and how each side holds it ===== -/
/-- the next unit of the same take -/
def isNxt (α : St) (u r : Int) : Prop := (r = -1 ∧ ∀ v, u < v → v < α 0 0 → α 6 v ≠ α 6 u) ∨ (u < r ∧ r < α 0 0 ∧ α 6 r = α 6 u ∧ ∀ v, u < v → v < r → α 6 v ≠ α 6 u)
/-- the last unit of a take -/
def isLst (α : St) (t r : Int) : Prop := (r = -1 ∧ ∀ v, 0 ≤ v → v < α 0 0 → α 6 v ≠ t) ∨ (0 ≤ r ∧ r < α 0 0 ∧ α 6 r = t ∧ ∀ v, r < v → v < α 0 0 → α 6 v ≠ t)
/-- a node's letter -/
def ltC (q : Int) : Int := if q = 0 then 42 else if q = 1 then 76 else if q = 2 then 82 else if q = 3 then 80 else 68
def cU (σ α : St) : Prop := σ 1 8 = α 0 0 ∧ (∀ u, 0 ≤ u → u < α 0 0 → σ 2 u = α 1 u ∧ σ 3 u = α 2 u ∧ σ 4 u = α 3 u ∧ σ 5 u = α 4 u ∧ σ 6 u = α 5 u ∧ σ 7 u = α 6 u ∧ isNxt α u (σ 8 u)) ∧ ∀ t, 0 ≤ t → t < 4 → isLst α t (σ 9 t)
def cR (σ α : St) : Prop := σ 10 3 = α 0 1 ∧ ∀ k, 0 ≤ k → k < α 0 1 → σ 11 k = α 7 k ∧ σ 12 k = α 8 k ∧ σ 13 k = α 9 k
def cK (σ α : St) : Prop := σ 0 8 = α 0 2 ∧ σ 0 9 = α 0 3 ∧ σ 0 10 = α 0 4 ∧ σ 0 11 = α 0 5 ∧ (∀ q, 0 ≤ q → q < 6 → σ 34 q = α 10 q) ∧ σ 64 0 = 0 ∧ σ 65 0 = 1000000 ∧ σ 66 0 = 0 ∧ σ 67 0 = 1
def cX (σ α : St) : Prop := σ 21 3 = α 0 6 ∧ ∀ i, 0 ≤ i → i < α 0 6 → σ 22 i = α 11 i
def cT (σ α : St) : Prop := σ 14 6 = α 0 7 ∧ σ 14 7 = α 0 8 ∧ σ 14 8 = α 0 9 ∧ ∀ i, 0 ≤ i → i < α 0 7 → σ 15 i = ltC (α 12 i) ∧ σ 17 i = α 16 i ∧ (α 12 i ≠ 0 → σ 16 i = α 13 i ∧ σ 18 i = α 14 i ∧ σ 19 i = α 15 i) ∧ (α 12 i = 0 → σ 20 i = α 13 i)
def mU (σ α : St) : Prop := σ 118 1 = α 0 0 ∧ ∀ u w, 0 ≤ u → u < α 0 0 → 0 ≤ w → w < 6 → σ 119 (6 * u + w) = α (1 + w) u
def mR (σ α : St) : Prop := σ 118 3 = α 0 1 ∧ ∀ k w, 0 ≤ k → k < α 0 1 → 0 ≤ w → w < 3 → σ 120 (3 * k + w) = α (7 + w) k
def mK (σ α : St) : Prop := σ 118 5 = α 0 2 ∧ σ 126 0 = α 0 3 ∧ σ 126 1 = α 0 4 ∧ σ 126 2 = α 0 5 ∧ (∀ q, 0 ≤ q → q < 6 → σ 121 q = α 10 q) ∧ σ 118 27 = -1
def mX (σ α : St) : Prop := σ 118 14 = α 0 6 ∧ ∀ i, 0 ≤ i → i < α 0 6 → σ 127 i = α 11 i
def mT (σ α : St) : Prop := σ 118 10 = α 0 8 ∧ σ 118 11 = α 0 9 ∧ ∀ i, 0 ≤ i → i < α 0 7 → σ 122 i = α 12 i ∧ σ 123 i = α 13 i ∧ (α 12 i ≠ 0 → σ 124 i = α 14 i ∧ σ 125 i = α 15 i)
def wU (α : St) : Prop := 0 ≤ α 0 0 ∧ α 0 0 ≤ 40 ∧ ∀ u, 0 ≤ u → u < α 0 0 → (0 ≤ α 1 u ∧ α 1 u ≤ 5) ∧ (0 ≤ α 2 u ∧ α 2 u ≤ 6) ∧ (0 ≤ α 3 u ∧ α 3 u ≤ 6) ∧ (0 ≤ α 4 u ∧ α 4 u ≤ 9) ∧ (1 ≤ α 5 u ∧ α 5 u ≤ 9) ∧ (0 ≤ α 6 u ∧ α 6 u ≤ 3)
def wR (α : St) : Prop := 0 ≤ α 0 1 ∧ α 0 1 ≤ 8 ∧ ∀ k, 0 ≤ k → k < α 0 1 → (0 ≤ α 7 k ∧ α 7 k ≤ 5) ∧ (0 ≤ α 8 k ∧ α 8 k ≤ 9) ∧ (1 ≤ α 9 k ∧ α 9 k ≤ 9)
def wK (α : St) : Prop := (0 ≤ α 0 2 ∧ α 0 2 ≤ 4) ∧ ∀ q, 0 ≤ q → q < 6 → 0 ≤ α 10 q ∧ α 10 q ≤ 5
def wX (α : St) : Prop := 0 ≤ α 0 6 ∧ α 0 6 ≤ 120 ∧ ∀ i, 0 ≤ i → i < α 0 6 → 0 ≤ α 11 i ∧ α 11 i ≤ 127
/-- a tree: kinds, figures, branches behind their node, what is above, how deep -/
def wT (α : St) : Prop := (1 ≤ α 0 7 ∧ α 0 7 ≤ 120) ∧ (1 ≤ α 0 8 ∧ α 0 8 ≤ 24) ∧ (0 ≤ α 0 9 ∧ α 0 9 ≤ 7) ∧ α 16 0 = -1 ∧ α 17 0 = 0 ∧ ∀ i, 0 ≤ i → i < α 0 7 → (0 ≤ α 12 i ∧ α 12 i ≤ 4) ∧ (0 ≤ α 17 i ∧ α 17 i ≤ 7) ∧ (α 12 i = 0 → 0 ≤ α 13 i ∧ α 13 i < α 0 8) ∧ (α 12 i ≠ 0 → (0 ≤ α 13 i ∧ α 13 i ≤ 9) ∧ (i < α 14 i ∧ α 14 i < α 0 7) ∧ (i < α 15 i ∧ α 15 i < α 0 7) ∧ α 14 i ≠ α 15 i ∧ α 16 (α 14 i) = i ∧ α 16 (α 15 i) = i ∧ α 17 (α 14 i) = α 17 i + 1 ∧ α 17 (α 15 i) = α 17 i + 1)
def IC (σ α : St) : Prop := cU σ α ∧ cR σ α ∧ cK σ α ∧ cX σ α ∧ cT σ α
def IM (σ α : St) : Prop := mU σ α ∧ mR σ α ∧ mK σ α ∧ mX σ α ∧ mT σ α
def WF (α : St) : Prop := wU α ∧ wR α ∧ wK α ∧ wX α ∧ wT α
end
section
/-! ===== what each part rests on ===== -/
theorem upS_of {σ : St} {o i x o' : Int} (h : ¬ o' = o) : upS σ o i x o' = σ o' := funext fun _ => upS_o h
theorem cU_c {σ τ α β : St} (h : ∀ o, 1 ≤ o → o ≤ 9 → τ o = σ o) (h0 : β 0 0 = α 0 0) (ha : ∀ o, 1 ≤ o → o ≤ 6 → β o = α o) (hh : cU σ α) : cU τ β := by
  unfold cU isNxt isLst at *
  rw [h 1 (by omega) (by omega), h 2 (by omega) (by omega), h 3 (by omega) (by omega), h 4 (by omega) (by omega), h 5 (by omega) (by omega), h 6 (by omega) (by omega), h 7 (by omega) (by omega), h 8 (by omega) (by omega), h 9 (by omega) (by omega), h0, ha 1 (by omega) (by omega), ha 2 (by omega) (by omega), ha 3 (by omega) (by omega), ha 4 (by omega) (by omega), ha 5 (by omega) (by omega), ha 6 (by omega) (by omega)]
  exact hh
theorem cR_c {σ τ α β : St} (h : ∀ o, 10 ≤ o → o ≤ 13 → τ o = σ o) (h0 : β 0 1 = α 0 1) (ha : ∀ o, 7 ≤ o → o ≤ 9 → β o = α o) (hh : cR σ α) : cR τ β := by
  unfold cR at *
  rw [h 10 (by omega) (by omega), h 11 (by omega) (by omega), h 12 (by omega) (by omega), h 13 (by omega) (by omega), h0, ha 7 (by omega) (by omega), ha 8 (by omega) (by omega), ha 9 (by omega) (by omega)]
  exact hh
theorem cK_c {σ τ α β : St} (h0 : τ 0 = σ 0) (h1 : τ 34 = σ 34) (h2 : ∀ o, 64 ≤ o → o ≤ 67 → τ o = σ o) (ha : ∀ i, 2 ≤ i → i ≤ 5 → β 0 i = α 0 i) (hb : β 10 = α 10) (hh : cK σ α) : cK τ β := by
  unfold cK at *
  rw [h0, h1, h2 64 (by omega) (by omega), h2 65 (by omega) (by omega), h2 66 (by omega) (by omega), h2 67 (by omega) (by omega), ha 2 (by omega) (by omega), ha 3 (by omega) (by omega), ha 4 (by omega) (by omega), ha 5 (by omega) (by omega), hb]
  exact hh
theorem cX_c {σ τ α β : St} (h0 : τ 21 3 = σ 21 3) (h1 : τ 22 = σ 22) (ha : β 0 6 = α 0 6) (hb : β 11 = α 11) (hh : cX σ α) : cX τ β := by
  unfold cX at *
  rw [h0, h1, ha, hb]
  exact hh
theorem cT_c {σ τ α β : St} (h : ∀ o, 14 ≤ o → o ≤ 20 → τ o = σ o) (h0 : ∀ i, 7 ≤ i → i ≤ 9 → β 0 i = α 0 i) (ha : ∀ o, 12 ≤ o → o ≤ 16 → β o = α o) (hh : cT σ α) : cT τ β := by
  unfold cT at *
  rw [h 14 (by omega) (by omega), h 15 (by omega) (by omega), h 16 (by omega) (by omega), h 17 (by omega) (by omega), h 18 (by omega) (by omega), h 19 (by omega) (by omega), h 20 (by omega) (by omega), h0 7 (by omega) (by omega), h0 8 (by omega) (by omega), h0 9 (by omega) (by omega), ha 12 (by omega) (by omega), ha 13 (by omega) (by omega), ha 14 (by omega) (by omega), ha 15 (by omega) (by omega), ha 16 (by omega) (by omega)]
  exact hh
theorem mU_c {σ τ α β : St} (h0 : τ 118 1 = σ 118 1) (h : τ 119 = σ 119) (hb : β 0 0 = α 0 0) (ha : ∀ o, 1 ≤ o → o ≤ 6 → β o = α o) (hh : mU σ α) : mU τ β := by
  unfold mU at *
  rw [h0, h, hb]
  exact ⟨hh.1, fun u w h1 h2 h3 h4 => by rw [ha (1 + w) (by omega) (by omega)]; exact hh.2 u w h1 h2 h3 h4⟩
theorem mR_c {σ τ α β : St} (h0 : τ 118 3 = σ 118 3) (h : τ 120 = σ 120) (hb : β 0 1 = α 0 1) (ha : ∀ o, 7 ≤ o → o ≤ 9 → β o = α o) (hh : mR σ α) : mR τ β := by
  unfold mR at *
  rw [h0, h, hb]
  exact ⟨hh.1, fun u w h1 h2 h3 h4 => by rw [ha (7 + w) (by omega) (by omega)]; exact hh.2 u w h1 h2 h3 h4⟩
theorem mK_c {σ τ α β : St} (h0 : τ 118 5 = σ 118 5) (h7 : τ 118 27 = σ 118 27) (h1 : τ 126 = σ 126) (h2 : τ 121 = σ 121) (ha : ∀ i, 2 ≤ i → i ≤ 5 → β 0 i = α 0 i) (hb : β 10 = α 10) (hh : mK σ α) : mK τ β := by
  unfold mK at *
  rw [h0, h1, h2, h7, ha 2 (by omega) (by omega), ha 3 (by omega) (by omega), ha 4 (by omega) (by omega), ha 5 (by omega) (by omega), hb]
  exact hh
theorem mX_c {σ τ α β : St} (h0 : τ 118 14 = σ 118 14) (h1 : τ 127 = σ 127) (ha : β 0 6 = α 0 6) (hb : β 11 = α 11) (hh : mX σ α) : mX τ β := by
  unfold mX at *
  rw [h0, h1, ha, hb]
  exact hh
theorem mT_c {σ τ α β : St} (h0 : τ 118 10 = σ 118 10) (h1 : τ 118 11 = σ 118 11) (h : ∀ o, 122 ≤ o → o ≤ 125 → τ o = σ o) (hb : ∀ i, 7 ≤ i → i ≤ 9 → β 0 i = α 0 i) (ha : ∀ o, 12 ≤ o → o ≤ 15 → β o = α o) (hh : mT σ α) : mT τ β := by
  unfold mT at *
  rw [h0, h1, h 122 (by omega) (by omega), h 123 (by omega) (by omega), h 124 (by omega) (by omega), h 125 (by omega) (by omega), hb 7 (by omega) (by omega), hb 8 (by omega) (by omega), hb 9 (by omega) (by omega), ha 12 (by omega) (by omega), ha 13 (by omega) (by omega), ha 14 (by omega) (by omega), ha 15 (by omega) (by omega)]
  exact hh
theorem wU_c {α β : St} (h0 : β 0 0 = α 0 0) (ha : ∀ o, 1 ≤ o → o ≤ 6 → β o = α o) (hh : wU α) : wU β := by
  unfold wU at *
  rw [h0, ha 1 (by omega) (by omega), ha 2 (by omega) (by omega), ha 3 (by omega) (by omega), ha 4 (by omega) (by omega), ha 5 (by omega) (by omega), ha 6 (by omega) (by omega)]
  exact hh
theorem wR_c {α β : St} (h0 : β 0 1 = α 0 1) (ha : ∀ o, 7 ≤ o → o ≤ 9 → β o = α o) (hh : wR α) : wR β := by
  unfold wR at *
  rw [h0, ha 7 (by omega) (by omega), ha 8 (by omega) (by omega), ha 9 (by omega) (by omega)]
  exact hh
theorem wK_c {α β : St} (h0 : β 0 2 = α 0 2) (ha : β 10 = α 10) (hh : wK α) : wK β := by
  unfold wK at *
  rw [h0, ha]
  exact hh
theorem wX_c {α β : St} (h0 : β 0 6 = α 0 6) (ha : β 11 = α 11) (hh : wX α) : wX β := by
  unfold wX at *
  rw [h0, ha]
  exact hh
theorem wT_c {α β : St} (h0 : ∀ i, 7 ≤ i → i ≤ 9 → β 0 i = α 0 i) (ha : ∀ o, 12 ≤ o → o ≤ 17 → β o = α o) (hh : wT α) : wT β := by
  unfold wT at *
  rw [h0 7 (by omega) (by omega), h0 8 (by omega) (by omega), h0 9 (by omega) (by omega), ha 12 (by omega) (by omega), ha 13 (by omega) (by omega), ha 14 (by omega) (by omega), ha 15 (by omega) (by omega), ha 16 (by omega) (by omega), ha 17 (by omega) (by omega)]
  exact hh
theorem IC_c {σ τ α : St} (h : ∀ o, o < 118 → τ o = σ o) (hh : IC σ α) : IC τ α :=
  ⟨cU_c (fun o _ _ => h o (by omega)) rfl (fun _ _ _ => rfl) hh.1, cR_c (fun o _ _ => h o (by omega)) rfl (fun _ _ _ => rfl) hh.2.1, cK_c (h 0 (by omega)) (h 34 (by omega)) (fun o _ _ => h o (by omega)) (fun _ _ _ => rfl) rfl hh.2.2.1, cX_c (by rw [h 21 (by omega)]) (h 22 (by omega)) rfl rfl hh.2.2.2.1, cT_c (fun o _ _ => h o (by omega)) (fun _ _ _ => rfl) (fun _ _ _ => rfl) hh.2.2.2.2⟩
theorem IM_c {σ τ α : St} (h : ∀ o, 118 ≤ o → τ o = σ o) (hh : IM σ α) : IM τ α :=
  ⟨mU_c (by rw [h 118 (by omega)]) (h 119 (by omega)) rfl (fun _ _ _ => rfl) hh.1, mR_c (by rw [h 118 (by omega)]) (h 120 (by omega)) rfl (fun _ _ _ => rfl) hh.2.1, mK_c (by rw [h 118 (by omega)]) (by rw [h 118 (by omega)]) (h 126 (by omega)) (h 121 (by omega)) (fun _ _ _ => rfl) rfl hh.2.2.1, mX_c (by rw [h 118 (by omega)]) (h 127 (by omega)) rfl rfl hh.2.2.2.1, mT_c (by rw [h 118 (by omega)]) (by rw [h 118 (by omega)]) (fun o _ _ => h o (by omega)) (fun _ _ _ => rfl) (fun _ _ _ => rfl) hh.2.2.2.2⟩
/-! one part changes -/
theorem IC_chU {σ τ α β : St} (hs : ∀ o, (o < 1 ∨ 9 < o) → τ o = σ o) (h0 : ∀ i, ¬ i = 0 → β 0 i = α 0 i) (ha : ∀ o, 7 ≤ o → β o = α o) (h : IC σ α) (hk : cU τ β) : IC τ β :=
  ⟨hk, cR_c (fun o _ _ => hs o (by omega)) (h0 1 (by omega)) (fun o _ _ => ha o (by omega)) h.2.1, cK_c (hs 0 (by omega)) (hs 34 (by omega)) (fun o _ _ => hs o (by omega)) (fun i _ _ => h0 i (by omega)) (ha 10 (by omega)) h.2.2.1, cX_c (by rw [hs 21 (by omega)]) (hs 22 (by omega)) (h0 6 (by omega)) (ha 11 (by omega)) h.2.2.2.1, cT_c (fun o _ _ => hs o (by omega)) (fun i _ _ => h0 i (by omega)) (fun o _ _ => ha o (by omega)) h.2.2.2.2⟩
theorem IC_chR {σ τ α β : St} (hs : ∀ o, (o < 10 ∨ 13 < o) → (∀ i, (o = 21 → i = 3) → τ o i = σ o i)) (h0 : ∀ i, ¬ i = 1 → β 0 i = α 0 i) (ha : ∀ o, 1 ≤ o → (o < 7 ∨ 9 < o) → β o = α o) (h : IC σ α) (hk : cR τ β) : IC τ β := by
  have hs2 : ∀ o, (o < 10 ∨ 13 < o) → ¬ o = 21 → τ o = σ o := fun o h1 h2 => funext fun i => hs o h1 i (fun z => absurd z h2)
  exact ⟨cU_c (fun o _ _ => hs2 o (by omega) (by omega)) (h0 0 (by omega)) (fun o _ _ => ha o (by omega) (by omega)) h.1, hk, cK_c (hs2 0 (by omega) (by omega)) (hs2 34 (by omega) (by omega)) (fun o _ _ => hs2 o (by omega) (by omega)) (fun i _ _ => h0 i (by omega)) (ha 10 (by omega) (by omega)) h.2.2.1, cX_c (hs 21 (by omega) 3 (fun _ => rfl)) (hs2 22 (by omega) (by omega)) (h0 6 (by omega)) (ha 11 (by omega) (by omega)) h.2.2.2.1, cT_c (fun o _ _ => hs2 o (by omega) (by omega)) (fun i _ _ => h0 i (by omega)) (fun o _ _ => ha o (by omega) (by omega)) h.2.2.2.2⟩
theorem IC_chK {σ τ α β : St} (hs : ∀ o, ¬ o = 0 → ¬ o = 34 → τ o = σ o) (h0 : ∀ i, (i < 2 ∨ 5 < i) → β 0 i = α 0 i) (ha : ∀ o, 1 ≤ o → ¬ o = 10 → β o = α o) (h : IC σ α) (hk : cK τ β) : IC τ β :=
  ⟨cU_c (fun o _ _ => hs o (by omega) (by omega)) (h0 0 (by omega)) (fun o _ _ => ha o (by omega) (by omega)) h.1, cR_c (fun o _ _ => hs o (by omega) (by omega)) (h0 1 (by omega)) (fun o _ _ => ha o (by omega) (by omega)) h.2.1, hk, cX_c (by rw [hs 21 (by omega) (by omega)]) (hs 22 (by omega) (by omega)) (h0 6 (by omega)) (ha 11 (by omega) (by omega)) h.2.2.2.1, cT_c (fun o _ _ => hs o (by omega) (by omega)) (fun i _ _ => h0 i (by omega)) (fun o _ _ => ha o (by omega) (by omega)) h.2.2.2.2⟩
theorem IC_chX {σ τ α β : St} (hs : ∀ o, ¬ o = 21 → ¬ o = 22 → τ o = σ o) (h0 : ∀ i, ¬ i = 6 → β 0 i = α 0 i) (ha : ∀ o, 1 ≤ o → ¬ o = 11 → β o = α o) (h : IC σ α) (hk : cX τ β) : IC τ β :=
  ⟨cU_c (fun o _ _ => hs o (by omega) (by omega)) (h0 0 (by omega)) (fun o _ _ => ha o (by omega) (by omega)) h.1, cR_c (fun o _ _ => hs o (by omega) (by omega)) (h0 1 (by omega)) (fun o _ _ => ha o (by omega) (by omega)) h.2.1, cK_c (hs 0 (by omega) (by omega)) (hs 34 (by omega) (by omega)) (fun o _ _ => hs o (by omega) (by omega)) (fun i _ _ => h0 i (by omega)) (ha 10 (by omega) (by omega)) h.2.2.1, hk, cT_c (fun o _ _ => hs o (by omega) (by omega)) (fun i _ _ => h0 i (by omega)) (fun o _ _ => ha o (by omega) (by omega)) h.2.2.2.2⟩
theorem IC_chT {σ τ α β : St} (hs : ∀ o, (o < 14 ∨ 20 < o) → (∀ i, (o = 21 → i = 3) → τ o i = σ o i)) (h0 : ∀ i, (i < 7 ∨ 9 < i) → β 0 i = α 0 i) (ha : ∀ o, 1 ≤ o → o < 12 → β o = α o) (h : IC σ α) (hk : cT τ β) : IC τ β := by
  have hs2 : ∀ o, (o < 14 ∨ 20 < o) → ¬ o = 21 → τ o = σ o := fun o h1 h2 => funext fun i => hs o h1 i (fun z => absurd z h2)
  exact ⟨cU_c (fun o _ _ => hs2 o (by omega) (by omega)) (h0 0 (by omega)) (fun o _ _ => ha o (by omega) (by omega)) h.1, cR_c (fun o _ _ => hs2 o (by omega) (by omega)) (h0 1 (by omega)) (fun o _ _ => ha o (by omega) (by omega)) h.2.1, cK_c (hs2 0 (by omega) (by omega)) (hs2 34 (by omega) (by omega)) (fun o _ _ => hs2 o (by omega) (by omega)) (fun i _ _ => h0 i (by omega)) (ha 10 (by omega) (by omega)) h.2.2.1, cX_c (hs 21 (by omega) 3 (fun _ => rfl)) (hs2 22 (by omega) (by omega)) (h0 6 (by omega)) (ha 11 (by omega) (by omega)) h.2.2.2.1, hk⟩
/-- what the class keeps for itself (drafts, choices, tallies, path) doesn't matter -/
theorem IC_scr {σ τ α : St} (hs : ∀ o, (o < 23 ∨ o = 34 ∨ (63 < o ∧ o < 68)) → (∀ i, (o = 21 → i = 3) → τ o i = σ o i)) (h : IC σ α) : IC τ α := by
  have hs2 : ∀ o, (o < 23 ∨ o = 34 ∨ (63 < o ∧ o < 68)) → ¬ o = 21 → τ o = σ o := fun o h1 h2 => funext fun i => hs o h1 i (fun z => absurd z h2)
  exact ⟨cU_c (fun o _ _ => hs2 o (by omega) (by omega)) rfl (fun _ _ _ => rfl) h.1, cR_c (fun o _ _ => hs2 o (by omega) (by omega)) rfl (fun _ _ _ => rfl) h.2.1, cK_c (hs2 0 (by omega) (by omega)) (hs2 34 (by omega) (by omega)) (fun o _ _ => hs2 o (by omega) (by omega)) (fun _ _ _ => rfl) rfl h.2.2.1, cX_c (hs 21 (by omega) 3 (fun _ => rfl)) (hs2 22 (by omega) (by omega)) rfl rfl h.2.2.2.1, cT_c (fun o _ _ => hs2 o (by omega) (by omega)) (fun _ _ _ => rfl) (fun _ _ _ => rfl) h.2.2.2.2⟩
/-- which fields of the reference matter -/
def mF (i : Int) : Prop := i = 1 ∨ i = 3 ∨ i = 5 ∨ i = 10 ∨ i = 11 ∨ i = 14 ∨ i = 27
theorem IM_gen {σ τ α β : St} (hU : mU τ β ∨ (τ 118 1 = σ 118 1 ∧ τ 119 = σ 119 ∧ β 0 0 = α 0 0 ∧ ∀ o, 1 ≤ o → o ≤ 6 → β o = α o)) (hR : mR τ β ∨ (τ 118 3 = σ 118 3 ∧ τ 120 = σ 120 ∧ β 0 1 = α 0 1 ∧ ∀ o, 7 ≤ o → o ≤ 9 → β o = α o)) (hK : mK τ β ∨ ((τ 118 5 = σ 118 5 ∧ τ 118 27 = σ 118 27 ∧ τ 126 = σ 126 ∧ τ 121 = σ 121) ∧ (∀ i, 2 ≤ i → i ≤ 5 → β 0 i = α 0 i) ∧ β 10 = α 10)) (hX : mX τ β ∨ (τ 118 14 = σ 118 14 ∧ τ 127 = σ 127 ∧ β 0 6 = α 0 6 ∧ β 11 = α 11)) (hT : mT τ β ∨ ((τ 118 10 = σ 118 10 ∧ τ 118 11 = σ 118 11) ∧ (∀ o, 122 ≤ o → o ≤ 125 → τ o = σ o) ∧ (∀ i, 7 ≤ i → i ≤ 9 → β 0 i = α 0 i) ∧ ∀ o, 12 ≤ o → o ≤ 15 → β o = α o)) (h : IM σ α) : IM τ β :=
  ⟨hU.elim id (fun q => mU_c q.1 q.2.1 q.2.2.1 q.2.2.2 h.1), hR.elim id (fun q => mR_c q.1 q.2.1 q.2.2.1 q.2.2.2 h.2.1), hK.elim id (fun q => mK_c q.1.1 q.1.2.1 q.1.2.2.1 q.1.2.2.2 q.2.1 q.2.2 h.2.2.1), hX.elim id (fun q => mX_c q.1 q.2.1 q.2.2.1 q.2.2.2 h.2.2.2.1), hT.elim id (fun q => mT_c q.1.1 q.1.2 q.2.1 q.2.2.1 q.2.2.2 h.2.2.2.2)⟩
theorem IM_chU {σ τ α β : St} (hf : ∀ i, mF i → ¬ i = 1 → τ 118 i = σ 118 i) (hs : ∀ o, 120 ≤ o → o ≤ 127 → τ o = σ o) (h0 : ∀ i, ¬ i = 0 → β 0 i = α 0 i) (ha : ∀ o, 7 ≤ o → β o = α o) (h : IM σ α) (hk : mU τ β) : IM τ β := by
  unfold mF at hf
  exact IM_gen (Or.inl hk) (Or.inr ⟨hf 3 (by omega) (by omega), hs 120 (by omega) (by omega), h0 1 (by omega), fun o _ _ => ha o (by omega)⟩) (Or.inr ⟨⟨hf 5 (by omega) (by omega), hf 27 (by omega) (by omega), hs 126 (by omega) (by omega), hs 121 (by omega) (by omega)⟩, fun i _ _ => h0 i (by omega), ha 10 (by omega)⟩) (Or.inr ⟨hf 14 (by omega) (by omega), hs 127 (by omega) (by omega), h0 6 (by omega), ha 11 (by omega)⟩) (Or.inr ⟨⟨hf 10 (by omega) (by omega), hf 11 (by omega) (by omega)⟩, fun o _ _ => hs o (by omega) (by omega), fun i _ _ => h0 i (by omega), fun o _ _ => ha o (by omega)⟩) h
theorem IM_chR {σ τ α β : St} (hf : ∀ i, mF i → ¬ i = 3 → τ 118 i = σ 118 i) (hs : ∀ o, 119 ≤ o → ¬ o = 120 → o ≤ 127 → τ o = σ o) (h0 : ∀ i, ¬ i = 1 → β 0 i = α 0 i) (ha : ∀ o, 1 ≤ o → (o < 7 ∨ 9 < o) → β o = α o) (h : IM σ α) (hk : mR τ β) : IM τ β := by
  unfold mF at hf
  exact IM_gen (Or.inr ⟨hf 1 (by omega) (by omega), hs 119 (by omega) (by omega) (by omega), h0 0 (by omega), fun o _ _ => ha o (by omega) (by omega)⟩) (Or.inl hk) (Or.inr ⟨⟨hf 5 (by omega) (by omega), hf 27 (by omega) (by omega), hs 126 (by omega) (by omega) (by omega), hs 121 (by omega) (by omega) (by omega)⟩, fun i _ _ => h0 i (by omega), ha 10 (by omega) (by omega)⟩) (Or.inr ⟨hf 14 (by omega) (by omega), hs 127 (by omega) (by omega) (by omega), h0 6 (by omega), ha 11 (by omega) (by omega)⟩) (Or.inr ⟨⟨hf 10 (by omega) (by omega), hf 11 (by omega) (by omega)⟩, fun o _ _ => hs o (by omega) (by omega) (by omega), fun i _ _ => h0 i (by omega), fun o _ _ => ha o (by omega) (by omega)⟩) h
theorem IM_chK {σ τ α β : St} (hf : ∀ i, mF i → ¬ i = 5 → ¬ i = 27 → τ 118 i = σ 118 i) (hs : ∀ o, 119 ≤ o → o ≤ 127 → ¬ o = 121 → ¬ o = 126 → τ o = σ o) (h0 : ∀ i, (i < 2 ∨ 5 < i) → β 0 i = α 0 i) (ha : ∀ o, 1 ≤ o → ¬ o = 10 → β o = α o) (h : IM σ α) (hk : mK τ β) : IM τ β := by
  unfold mF at hf
  exact IM_gen (Or.inr ⟨hf 1 (by omega) (by omega) (by omega), hs 119 (by omega) (by omega) (by omega) (by omega), h0 0 (by omega), fun o _ _ => ha o (by omega) (by omega)⟩) (Or.inr ⟨hf 3 (by omega) (by omega) (by omega), hs 120 (by omega) (by omega) (by omega) (by omega), h0 1 (by omega), fun o _ _ => ha o (by omega) (by omega)⟩) (Or.inl hk) (Or.inr ⟨hf 14 (by omega) (by omega) (by omega), hs 127 (by omega) (by omega) (by omega) (by omega), h0 6 (by omega), ha 11 (by omega) (by omega)⟩) (Or.inr ⟨⟨hf 10 (by omega) (by omega) (by omega), hf 11 (by omega) (by omega) (by omega)⟩, fun o _ _ => hs o (by omega) (by omega) (by omega) (by omega), fun i _ _ => h0 i (by omega), fun o _ _ => ha o (by omega) (by omega)⟩) h
theorem IM_chX {σ τ α β : St} (hf : ∀ i, mF i → ¬ i = 14 → τ 118 i = σ 118 i) (hs : ∀ o, 119 ≤ o → o ≤ 126 → τ o = σ o) (h0 : ∀ i, ¬ i = 6 → β 0 i = α 0 i) (ha : ∀ o, 1 ≤ o → ¬ o = 11 → β o = α o) (h : IM σ α) (hk : mX τ β) : IM τ β := by
  unfold mF at hf
  exact IM_gen (Or.inr ⟨hf 1 (by omega) (by omega), hs 119 (by omega) (by omega), h0 0 (by omega), fun o _ _ => ha o (by omega) (by omega)⟩) (Or.inr ⟨hf 3 (by omega) (by omega), hs 120 (by omega) (by omega), h0 1 (by omega), fun o _ _ => ha o (by omega) (by omega)⟩) (Or.inr ⟨⟨hf 5 (by omega) (by omega), hf 27 (by omega) (by omega), hs 126 (by omega) (by omega), hs 121 (by omega) (by omega)⟩, fun i _ _ => h0 i (by omega), ha 10 (by omega) (by omega)⟩) (Or.inl hk) (Or.inr ⟨⟨hf 10 (by omega) (by omega), hf 11 (by omega) (by omega)⟩, fun o _ _ => hs o (by omega) (by omega), fun i _ _ => h0 i (by omega), fun o _ _ => ha o (by omega) (by omega)⟩) h
theorem IM_chT {σ τ α β : St} (hf : ∀ i, mF i → ¬ i = 10 → ¬ i = 11 → τ 118 i = σ 118 i) (hs : ∀ o, 119 ≤ o → o ≤ 127 → (o < 122 ∨ 125 < o) → τ o = σ o) (h0 : ∀ i, (i < 7 ∨ 9 < i) → β 0 i = α 0 i) (ha : ∀ o, 1 ≤ o → o < 12 → β o = α o) (h : IM σ α) (hk : mT τ β) : IM τ β := by
  unfold mF at hf
  exact IM_gen (Or.inr ⟨hf 1 (by omega) (by omega) (by omega), hs 119 (by omega) (by omega) (by omega), h0 0 (by omega), fun o _ _ => ha o (by omega) (by omega)⟩) (Or.inr ⟨hf 3 (by omega) (by omega) (by omega), hs 120 (by omega) (by omega) (by omega), h0 1 (by omega), fun o _ _ => ha o (by omega) (by omega)⟩) (Or.inr ⟨⟨hf 5 (by omega) (by omega) (by omega), hf 27 (by omega) (by omega) (by omega), hs 126 (by omega) (by omega) (by omega), hs 121 (by omega) (by omega) (by omega)⟩, fun i _ _ => h0 i (by omega), ha 10 (by omega) (by omega)⟩) (Or.inr ⟨hf 14 (by omega) (by omega) (by omega), hs 127 (by omega) (by omega) (by omega), h0 6 (by omega), ha 11 (by omega) (by omega)⟩) (Or.inl hk) h
theorem IM_scr {σ τ α : St} (hf : ∀ i, mF i → τ 118 i = σ 118 i) (hs : ∀ o, 119 ≤ o → o ≤ 127 → τ o = σ o) (h : IM σ α) : IM τ α := by
  unfold mF at hf
  exact IM_gen (Or.inr ⟨hf 1 (by omega), hs 119 (by omega) (by omega), rfl, fun _ _ _ => rfl⟩) (Or.inr ⟨hf 3 (by omega), hs 120 (by omega) (by omega), rfl, fun _ _ _ => rfl⟩) (Or.inr ⟨⟨hf 5 (by omega), hf 27 (by omega), hs 126 (by omega) (by omega), hs 121 (by omega) (by omega)⟩, fun _ _ _ => rfl, rfl⟩) (Or.inr ⟨hf 14 (by omega), hs 127 (by omega) (by omega), rfl, rfl⟩) (Or.inr ⟨⟨hf 10 (by omega), hf 11 (by omega)⟩, fun o _ _ => hs o (by omega) (by omega), fun _ _ _ => rfl, fun _ _ _ => rfl⟩) h
theorem WF_chU {α β : St} (h0 : ∀ i, ¬ i = 0 → β 0 i = α 0 i) (ha : ∀ o, 7 ≤ o → β o = α o) (h : WF α) (hk : wU β) : WF β := ⟨hk, wR_c (h0 1 (by omega)) (fun o _ _ => ha o (by omega)) h.2.1, wK_c (h0 2 (by omega)) (ha 10 (by omega)) h.2.2.1, wX_c (h0 6 (by omega)) (ha 11 (by omega)) h.2.2.2.1, wT_c (fun i _ _ => h0 i (by omega)) (fun o _ _ => ha o (by omega)) h.2.2.2.2⟩
theorem WF_chR {α β : St} (h0 : ∀ i, ¬ i = 1 → β 0 i = α 0 i) (ha : ∀ o, 1 ≤ o → (o < 7 ∨ 9 < o) → β o = α o) (h : WF α) (hk : wR β) : WF β := ⟨wU_c (h0 0 (by omega)) (fun o _ _ => ha o (by omega) (by omega)) h.1, hk, wK_c (h0 2 (by omega)) (ha 10 (by omega) (by omega)) h.2.2.1, wX_c (h0 6 (by omega)) (ha 11 (by omega) (by omega)) h.2.2.2.1, wT_c (fun i _ _ => h0 i (by omega)) (fun o _ _ => ha o (by omega) (by omega)) h.2.2.2.2⟩
theorem WF_chK {α β : St} (h0 : ∀ i, (i < 2 ∨ 5 < i) → β 0 i = α 0 i) (ha : ∀ o, 1 ≤ o → ¬ o = 10 → β o = α o) (h : WF α) (hk : wK β) : WF β := ⟨wU_c (h0 0 (by omega)) (fun o _ _ => ha o (by omega) (by omega)) h.1, wR_c (h0 1 (by omega)) (fun o _ _ => ha o (by omega) (by omega)) h.2.1, hk, wX_c (h0 6 (by omega)) (ha 11 (by omega) (by omega)) h.2.2.2.1, wT_c (fun i _ _ => h0 i (by omega)) (fun o _ _ => ha o (by omega) (by omega)) h.2.2.2.2⟩
theorem WF_chX {α β : St} (h0 : ∀ i, ¬ i = 6 → β 0 i = α 0 i) (ha : ∀ o, 1 ≤ o → ¬ o = 11 → β o = α o) (h : WF α) (hk : wX β) : WF β := ⟨wU_c (h0 0 (by omega)) (fun o _ _ => ha o (by omega) (by omega)) h.1, wR_c (h0 1 (by omega)) (fun o _ _ => ha o (by omega) (by omega)) h.2.1, wK_c (h0 2 (by omega)) (ha 10 (by omega) (by omega)) h.2.2.1, hk, wT_c (fun i _ _ => h0 i (by omega)) (fun o _ _ => ha o (by omega) (by omega)) h.2.2.2.2⟩
theorem WF_chT {α β : St} (h0 : ∀ i, (i < 7 ∨ 9 < i) → β 0 i = α 0 i) (ha : ∀ o, 1 ≤ o → o < 12 → β o = α o) (h : WF α) (hk : wT β) : WF β := ⟨wU_c (h0 0 (by omega)) (fun o _ _ => ha o (by omega) (by omega)) h.1, wR_c (h0 1 (by omega)) (fun o _ _ => ha o (by omega) (by omega)) h.2.1, wK_c (h0 2 (by omega)) (ha 10 (by omega) (by omega)) h.2.2.1, wX_c (h0 6 (by omega)) (ha 11 (by omega) (by omega)) h.2.2.2.1, hk⟩
/-! ===== refusals ===== -/
def aR (α : St) (i : Int) : St := upS α 0 i (α 0 i + 1)
theorem WF_aR {α : St} (i : Int) (hi : 3 ≤ i ∧ i ≤ 5) (h : WF α) : WF (aR α i) := by
  unfold aR
  refine ⟨wU_c (upS_i (by omega)) (fun o _ _ => upS_of (by omega)) h.1, wR_c (upS_i (by omega)) (fun o _ _ => upS_of (by omega)) h.2.1, wK_c (upS_i (by omega)) (upS_of (by omega)) h.2.2.1, wX_c (upS_i (by omega)) (upS_of (by omega)) h.2.2.2.1, wT_c (fun j _ _ => upS_i (by omega)) (fun o _ _ => upS_of (by omega)) h.2.2.2.2⟩
theorem IC_aR {σ α : St} (i : Int) (hi : 3 ≤ i ∧ i ≤ 5) (h : IC σ α) : IC (upS σ 0 (i + 6) (σ 0 (i + 6) + 1)) (aR α i) := by
  unfold aR
  refine ⟨cU_c (fun o _ _ => upS_of (by omega)) (upS_i (by omega)) (fun o _ _ => upS_of (by omega)) h.1, cR_c (fun o _ _ => upS_of (by omega)) (upS_i (by omega)) (fun o _ _ => upS_of (by omega)) h.2.1, ?_, cX_c (upS_o (by omega)) (upS_of (by omega)) (upS_i (by omega)) (upS_of (by omega)) h.2.2.2.1, cT_c (fun o _ _ => upS_of (by omega)) (fun j _ _ => upS_i (by omega)) (fun o _ _ => upS_of (by omega)) h.2.2.2.2⟩
  obtain ⟨h1, h2, h3, h4, h5, h6⟩ := h.2.2.1
  have hc : i = 3 ∨ i = 4 ∨ i = 5 := by omega
  rcases hc with rfl | rfl | rfl <;> exact ⟨by simp (disch := omega) only [upS_h, upS_o, upS_i, Int.reduceAdd, Int.reduceSub, Int.reduceMul, Int.reduceNeg, h1], by simp (disch := omega) only [upS_h, upS_o, upS_i, Int.reduceAdd, Int.reduceSub, Int.reduceMul, Int.reduceNeg, h2], by simp (disch := omega) only [upS_h, upS_o, upS_i, Int.reduceAdd, Int.reduceSub, Int.reduceMul, Int.reduceNeg, h3], by simp (disch := omega) only [upS_h, upS_o, upS_i, Int.reduceAdd, Int.reduceSub, Int.reduceMul, Int.reduceNeg, h4], fun q a b => by simp (disch := omega) only [upS_h, upS_o, upS_i, Int.reduceAdd, Int.reduceSub, Int.reduceMul, Int.reduceNeg, h5 q a b], by simp (disch := omega) only [upS_h, upS_o, upS_i, Int.reduceAdd, Int.reduceSub, Int.reduceMul, Int.reduceNeg, h6.1], by simp (disch := omega) only [upS_h, upS_o, upS_i, Int.reduceAdd, Int.reduceSub, Int.reduceMul, Int.reduceNeg, h6.2.1], by simp (disch := omega) only [upS_h, upS_o, upS_i, Int.reduceAdd, Int.reduceSub, Int.reduceMul, Int.reduceNeg, h6.2.2.1], by simp (disch := omega) only [upS_h, upS_o, upS_i, Int.reduceAdd, Int.reduceSub, Int.reduceMul, Int.reduceNeg, h6.2.2.2]⟩
theorem IM_aR {σ α : St} (i : Int) (hi : 3 ≤ i ∧ i ≤ 5) (h : IM σ α) : IM (upS σ 126 (i - 3) (σ 126 (i - 3) + 1)) (aR α i) := by
  unfold aR
  refine ⟨mU_c (upS_o (by omega)) (upS_of (by omega)) (upS_i (by omega)) (fun o _ _ => upS_of (by omega)) h.1, mR_c (upS_o (by omega)) (upS_of (by omega)) (upS_i (by omega)) (fun o _ _ => upS_of (by omega)) h.2.1, ?_, mX_c (upS_o (by omega)) (upS_of (by omega)) (upS_i (by omega)) (upS_of (by omega)) h.2.2.2.1, mT_c (upS_o (by omega)) (upS_o (by omega)) (fun o _ _ => upS_of (by omega)) (fun j _ _ => upS_i (by omega)) (fun o _ _ => upS_of (by omega)) h.2.2.2.2⟩
  obtain ⟨h1, h2, h3, h4, h5, h6⟩ := h.2.2.1
  have hc : i = 3 ∨ i = 4 ∨ i = 5 := by omega
  rcases hc with rfl | rfl | rfl <;> exact ⟨by simp (disch := omega) only [upS_h, upS_o, upS_i, Int.reduceAdd, Int.reduceSub, Int.reduceMul, Int.reduceNeg, h1], by simp (disch := omega) only [upS_h, upS_o, upS_i, Int.reduceAdd, Int.reduceSub, Int.reduceMul, Int.reduceNeg, h2], by simp (disch := omega) only [upS_h, upS_o, upS_i, Int.reduceAdd, Int.reduceSub, Int.reduceMul, Int.reduceNeg, h3], by simp (disch := omega) only [upS_h, upS_o, upS_i, Int.reduceAdd, Int.reduceSub, Int.reduceMul, Int.reduceNeg, h4], fun q a b => by simp (disch := omega) only [upS_h, upS_o, upS_i, Int.reduceAdd, Int.reduceSub, Int.reduceMul, Int.reduceNeg, h5 q a b], by simp (disch := omega) only [upS_h, upS_o, upS_i, Int.reduceAdd, Int.reduceSub, Int.reduceMul, Int.reduceNeg, h6]⟩
theorem c_bad (σ : St) : f_X9_bad σ = some (-2, upS σ 0 (3 + 6) (σ 0 (3 + 6) + 1)) := rfl
theorem c_no (σ : St) : f_X9_no σ = some (-3, upS σ 0 (4 + 6) (σ 0 (4 + 6) + 1)) := rfl
theorem c_full (σ : St) : f_X9_full σ = some (-4, upS σ 0 (5 + 6) (σ 0 (5 + 6) + 1)) := rfl
theorem m_bad (σ : St) (x : Int) : f_X10_bad σ x = some (x, upS σ 126 (3 - 3) (σ 126 (3 - 3) + 1)) := by
  unfold f_X10_bad
  simp (disch := omega) only [↓rdA_t, ↓wrA_t, ↓ixA_t, ↓wrF_d, ↓bd2_s, ↓bd1_s, ↓bnd_d, ↓iww_t, ↓iww_f, ↓iwl_t, ↓iwl_f, ↓ilw_t, ↓ilw_f, ↓eww_t, ↓eww_f, ↓ewl_t, ↓ewl_f, ↓ez_t, ↓ez_f, ↓il_t, ↓il_f, il_t, il_f, ez_t, ez_f, if_true, if_false, upS_h, upS_o, upS_i, Int.reduceAdd, Int.reduceSub, Int.reduceMul, Int.reduceNeg, wI_id]
theorem m_no (σ : St) : f_X10_no σ = some (-3, upS σ 126 (4 - 3) (σ 126 (4 - 3) + 1)) := by
  unfold f_X10_no
  simp (disch := omega) only [↓rdA_t, ↓wrA_t, ↓ixA_t, ↓wrF_d, ↓bd2_s, ↓bd1_s, ↓bnd_d, ↓iww_t, ↓iww_f, ↓iwl_t, ↓iwl_f, ↓ilw_t, ↓ilw_f, ↓eww_t, ↓eww_f, ↓ewl_t, ↓ewl_f, ↓ez_t, ↓ez_f, ↓il_t, ↓il_f, il_t, il_f, ez_t, ez_f, if_true, if_false, upS_h, upS_o, upS_i, Int.reduceAdd, Int.reduceSub, Int.reduceMul, Int.reduceNeg, wI_id]
theorem m_full (σ : St) : f_X10_full σ = some (-4, upS σ 126 (5 - 3) (σ 126 (5 - 3) + 1)) := by
  unfold f_X10_full
  simp (disch := omega) only [↓rdA_t, ↓wrA_t, ↓ixA_t, ↓wrF_d, ↓bd2_s, ↓bd1_s, ↓bnd_d, ↓iww_t, ↓iww_f, ↓iwl_t, ↓iwl_f, ↓ilw_t, ↓ilw_f, ↓eww_t, ↓eww_f, ↓ewl_t, ↓ewl_f, ↓ez_t, ↓ez_f, ↓il_t, ↓il_f, il_t, il_f, ez_t, ez_f, if_true, if_false, upS_h, upS_o, upS_i, Int.reduceAdd, Int.reduceSub, Int.reduceMul, Int.reduceNeg, wI_id]
/-! an operation on each side: an answer, the new abstract store, the other side left as it was -/
def oC (f : Option (Int × St)) (σ α : St) (r : Int) (β : St) : Prop := ∃ τ, f = some (r, τ) ∧ IC τ β ∧ ∀ o, 118 ≤ o → τ o = σ o
def oM (f : Option (Int × St)) (σ α : St) (r : Int) (β : St) : Prop := ∃ τ, f = some (r, τ) ∧ IM τ β ∧ ∀ o, o < 118 → τ o = σ o
theorem oC_bad {σ α : St} (h : IC σ α) : oC (f_X9_bad σ) σ α (-2) (aR α 3) := ⟨_, c_bad σ, IC_aR 3 (by omega) h, fun o ho => upS_of (by omega)⟩
theorem oC_no {σ α : St} (h : IC σ α) : oC (f_X9_no σ) σ α (-3) (aR α 4) := ⟨_, c_no σ, IC_aR 4 (by omega) h, fun o ho => upS_of (by omega)⟩
theorem oC_full {σ α : St} (h : IC σ α) : oC (f_X9_full σ) σ α (-4) (aR α 5) := ⟨_, c_full σ, IC_aR 5 (by omega) h, fun o ho => upS_of (by omega)⟩
theorem oM_bad {σ α : St} (x : Int) (h : IM σ α) : oM (f_X10_bad σ x) σ α x (aR α 3) := ⟨_, m_bad σ x, IM_aR 3 (by omega) h, fun o ho => upS_of (by omega)⟩
theorem oM_no {σ α : St} (h : IM σ α) : oM (f_X10_no σ) σ α (-3) (aR α 4) := ⟨_, m_no σ, IM_aR 4 (by omega) h, fun o ho => upS_of (by omega)⟩
theorem oM_full {σ α : St} (h : IM σ α) : oM (f_X10_full σ) σ α (-4) (aR α 5) := ⟨_, m_full σ, IM_aR 5 (by omega) h, fun o ho => upS_of (by omega)⟩
/-- a call whose answer and store are handed on -/
theorem oC_id {f : Option (Int × St)} {σ α : St} {r : Int} {β : St} (h : oC f σ α r β) : oC (bd2 f fun v τ => some (v, τ)) σ α r β := by
  obtain ⟨τ, h1, h2⟩ := h
  exact ⟨τ, by rw [h1]; rfl, h2⟩
theorem oM_id {f : Option (Int × St)} {σ α : St} {r : Int} {β : St} (h : oM f σ α r β) : oM (bd2 f fun v τ => some (v, τ)) σ α r β := by
  obtain ⟨τ, h1, h2⟩ := h
  exact ⟨τ, by rw [h1]; rfl, h2⟩
theorem oC_ret {σ α : St} (r : Int) (h : IC σ α) : oC (some (r, σ)) σ α r α := ⟨σ, rfl, h, fun _ _ => rfl⟩
theorem oM_ret {σ α : St} (r : Int) (h : IM σ α) : oM (some (r, σ)) σ α r α := ⟨σ, rfl, h, fun _ _ => rfl⟩
/-! ===== fitter, clear, other, told ===== -/
def rFit (α : St) (a : Int) : Int := if 0 ≤ a ∧ a ≤ 4 then α 0 2 else -2
def aFit (α : St) (a : Int) : St := if 0 ≤ a ∧ a ≤ 4 then upS α 0 2 a else aR α 3
theorem xc_fitter {σ α : St} {a : Int} (h : IC σ α) (hw : WF α) (ha : inR a) : oC (f_X9_fitter σ a) σ α (rFit α a) (aFit α a) := by
  unfold inR at ha
  unfold f_X9_fitter rFit aFit
  by_cases c : 0 ≤ a ∧ a ≤ 4
  · simp (disch := omega) only [↓rdA_t, ↓wrA_t, ↓ixA_t, ↓wrF_d, ↓bd2_s, ↓bd1_s, ↓bnd_d, ↓iww_t, ↓iww_f, ↓iwl_t, ↓iwl_f, ↓ilw_t, ↓ilw_f, ↓eww_t, ↓eww_f, ↓ewl_t, ↓ewl_f, ↓ez_t, ↓ez_f, ↓il_t, ↓il_f, il_t, il_f, ez_t, ez_f, if_true, if_false, upS_h, upS_o, upS_i, Int.reduceAdd, Int.reduceSub, Int.reduceMul, Int.reduceNeg, wI_id, within_t, if_pos c]
    obtain ⟨h1, h2, h3, h4, h5, h6⟩ := h.2.2.1
    refine ⟨_, by rw [h1], ⟨cU_c (fun o _ _ => upS_of (by omega)) (upS_i (by omega)) (fun o _ _ => upS_of (by omega)) h.1, cR_c (fun o _ _ => upS_of (by omega)) (upS_i (by omega)) (fun o _ _ => upS_of (by omega)) h.2.1, ?_, cX_c (upS_o (by omega)) (upS_of (by omega)) (upS_i (by omega)) (upS_of (by omega)) h.2.2.2.1, cT_c (fun o _ _ => upS_of (by omega)) (fun j _ _ => upS_i (by omega)) (fun o _ _ => upS_of (by omega)) h.2.2.2.2⟩, fun o ho => upS_of (by omega)⟩
    exact ⟨by simp (disch := omega) only [upS_h, upS_o, upS_i, Int.reduceAdd, Int.reduceSub, Int.reduceMul, Int.reduceNeg], by simp (disch := omega) only [upS_h, upS_o, upS_i, Int.reduceAdd, Int.reduceSub, Int.reduceMul, Int.reduceNeg, h2], by simp (disch := omega) only [upS_h, upS_o, upS_i, Int.reduceAdd, Int.reduceSub, Int.reduceMul, Int.reduceNeg, h3], by simp (disch := omega) only [upS_h, upS_o, upS_i, Int.reduceAdd, Int.reduceSub, Int.reduceMul, Int.reduceNeg, h4], fun q a b => by simp (disch := omega) only [upS_h, upS_o, upS_i, Int.reduceAdd, Int.reduceSub, Int.reduceMul, Int.reduceNeg, h5 q a b], by simp (disch := omega) only [upS_h, upS_o, upS_i, Int.reduceAdd, Int.reduceSub, Int.reduceMul, Int.reduceNeg, h6.1], by simp (disch := omega) only [upS_h, upS_o, upS_i, Int.reduceAdd, Int.reduceSub, Int.reduceMul, Int.reduceNeg, h6.2.1], by simp (disch := omega) only [upS_h, upS_o, upS_i, Int.reduceAdd, Int.reduceSub, Int.reduceMul, Int.reduceNeg, h6.2.2.1], by simp (disch := omega) only [upS_h, upS_o, upS_i, Int.reduceAdd, Int.reduceSub, Int.reduceMul, Int.reduceNeg, h6.2.2.2]⟩
  · simp (disch := omega) only [↓rdA_t, ↓wrA_t, ↓ixA_t, ↓wrF_d, ↓bd2_s, ↓bd1_s, ↓bnd_d, ↓iww_t, ↓iww_f, ↓iwl_t, ↓iwl_f, ↓ilw_t, ↓ilw_f, ↓eww_t, ↓eww_f, ↓ewl_t, ↓ewl_f, ↓ez_t, ↓ez_f, ↓il_t, ↓il_f, il_t, il_f, ez_t, ez_f, if_true, if_false, upS_h, upS_o, upS_i, Int.reduceAdd, Int.reduceSub, Int.reduceMul, Int.reduceNeg, wI_id, within_f, if_neg c]
    exact oC_id (oC_bad h)
theorem xm_fitter {σ α : St} {a : Int} (h : IM σ α) (hw : WF α) (ha : inR a) : oM (f_X10_fitter σ a) σ α (rFit α a) (aFit α a) := by
  unfold inR at ha
  unfold f_X10_fitter rFit aFit
  by_cases c : 0 ≤ a ∧ a ≤ 4
  · simp (disch := omega) only [↓rdA_t, ↓wrA_t, ↓ixA_t, ↓wrF_d, ↓bd2_s, ↓bd1_s, ↓bnd_d, ↓iww_t, ↓iww_f, ↓iwl_t, ↓iwl_f, ↓ilw_t, ↓ilw_f, ↓eww_t, ↓eww_f, ↓ewl_t, ↓ewl_f, ↓ez_t, ↓ez_f, ↓il_t, ↓il_f, il_t, il_f, ez_t, ez_f, if_true, if_false, upS_h, upS_o, upS_i, Int.reduceAdd, Int.reduceSub, Int.reduceMul, Int.reduceNeg, wI_id, in_t, if_pos c]
    obtain ⟨h1, h2, h3, h4, h5, h6⟩ := h.2.2.1
    refine ⟨_, by rw [h1], ⟨mU_c (upS_i (by omega)) (upS_of (by omega)) (upS_i (by omega)) (fun o _ _ => upS_of (by omega)) h.1, mR_c (upS_i (by omega)) (upS_of (by omega)) (upS_i (by omega)) (fun o _ _ => upS_of (by omega)) h.2.1, ?_, mX_c (upS_i (by omega)) (upS_of (by omega)) (upS_i (by omega)) (upS_of (by omega)) h.2.2.2.1, mT_c (upS_i (by omega)) (upS_i (by omega)) (fun o _ _ => upS_of (by omega)) (fun j _ _ => upS_i (by omega)) (fun o _ _ => upS_of (by omega)) h.2.2.2.2⟩, fun o ho => upS_of (by omega)⟩
    exact ⟨by simp (disch := omega) only [upS_h, upS_o, upS_i, Int.reduceAdd, Int.reduceSub, Int.reduceMul, Int.reduceNeg], by simp (disch := omega) only [upS_h, upS_o, upS_i, Int.reduceAdd, Int.reduceSub, Int.reduceMul, Int.reduceNeg, h2], by simp (disch := omega) only [upS_h, upS_o, upS_i, Int.reduceAdd, Int.reduceSub, Int.reduceMul, Int.reduceNeg, h3], by simp (disch := omega) only [upS_h, upS_o, upS_i, Int.reduceAdd, Int.reduceSub, Int.reduceMul, Int.reduceNeg, h4], fun q a b => by simp (disch := omega) only [upS_h, upS_o, upS_i, Int.reduceAdd, Int.reduceSub, Int.reduceMul, Int.reduceNeg, h5 q a b], by simp (disch := omega) only [upS_h, upS_o, upS_i, Int.reduceAdd, Int.reduceSub, Int.reduceMul, Int.reduceNeg, h6]⟩
  · simp (disch := omega) only [↓rdA_t, ↓wrA_t, ↓ixA_t, ↓wrF_d, ↓bd2_s, ↓bd1_s, ↓bnd_d, ↓iww_t, ↓iww_f, ↓iwl_t, ↓iwl_f, ↓ilw_t, ↓ilw_f, ↓eww_t, ↓eww_f, ↓ewl_t, ↓ewl_f, ↓ez_t, ↓ez_f, ↓il_t, ↓il_f, il_t, il_f, ez_t, ez_f, if_true, if_false, upS_h, upS_o, upS_i, Int.reduceAdd, Int.reduceSub, Int.reduceMul, Int.reduceNeg, wI_id, in_f, if_neg c]
    exact oM_id (oM_bad (-2) h)
theorem wf_fitter {α : St} {a : Int} (hw : WF α) : WF (aFit α a) := by
  unfold aFit
  by_cases c : 0 ≤ a ∧ a ≤ 4
  · rw [if_pos c]
    refine ⟨wU_c (upS_i (by omega)) (fun o _ _ => upS_of (by omega)) hw.1, wR_c (upS_i (by omega)) (fun o _ _ => upS_of (by omega)) hw.2.1, ?_, wX_c (upS_i (by omega)) (upS_of (by omega)) hw.2.2.2.1, wT_c (fun j _ _ => upS_i (by omega)) (fun o _ _ => upS_of (by omega)) hw.2.2.2.2⟩
    refine ⟨by simp (disch := omega) only [upS_h, upS_o, upS_i, Int.reduceAdd, Int.reduceSub, Int.reduceMul, Int.reduceNeg]; omega, fun q a b => by simp (disch := omega) only [upS_h, upS_o, upS_i, Int.reduceAdd, Int.reduceSub, Int.reduceMul, Int.reduceNeg]; exact hw.2.2.1.2 q a b⟩
  · rw [if_neg c]
    exact WF_aR 3 (by omega) hw
end
section
/-! ===== clear, type, other, told, empties ===== -/
def aClr (α : St) : St := upS α 0 6 0
theorem xc_clear {σ α : St} (h : IC σ α) : oC (f_X9_clear σ) σ α (α 0 6) (aClr α) := by
  unfold f_X9_clear aClr
  simp (disch := omega) only [↓rdA_t, ↓wrA_t, ↓ixA_t, ↓wrF_d, ↓bd2_s, ↓bd1_s, ↓bnd_d, ↓iww_t, ↓iww_f, ↓iwl_t, ↓iwl_f, ↓ilw_t, ↓ilw_f, ↓eww_t, ↓eww_f, ↓ewl_t, ↓ewl_f, ↓ez_t, ↓ez_f, ↓il_t, ↓il_f, il_t, il_f, ez_t, ez_f, if_true, if_false, upS_h, upS_o, upS_i, Int.reduceAdd, Int.reduceSub, Int.reduceMul, Int.reduceNeg, wI_id]
  refine ⟨_, by rw [h.2.2.2.1.1], IC_chX (fun o _ _ => upS_of (by omega)) (fun i _ => upS_i (by omega)) (fun o _ _ => upS_of (by omega)) h ?_, fun o ho => upS_of (by omega)⟩
  exact ⟨by simp (disch := omega) only [upS_h, upS_o, upS_i, Int.reduceAdd, Int.reduceSub, Int.reduceMul, Int.reduceNeg], fun i h1 h2 => by rw [upS_h ⟨rfl, rfl⟩] at h2; omega⟩
theorem xm_clear {σ α : St} (h : IM σ α) : oM (f_X10_clear σ) σ α (α 0 6) (aClr α) := by
  unfold f_X10_clear aClr
  simp (disch := omega) only [↓rdA_t, ↓wrA_t, ↓ixA_t, ↓wrF_d, ↓bd2_s, ↓bd1_s, ↓bnd_d, ↓iww_t, ↓iww_f, ↓iwl_t, ↓iwl_f, ↓ilw_t, ↓ilw_f, ↓eww_t, ↓eww_f, ↓ewl_t, ↓ewl_f, ↓ez_t, ↓ez_f, ↓il_t, ↓il_f, il_t, il_f, ez_t, ez_f, if_true, if_false, upS_h, upS_o, upS_i, Int.reduceAdd, Int.reduceSub, Int.reduceMul, Int.reduceNeg, wI_id]
  refine ⟨_, by rw [h.2.2.2.1.1], IM_chX (fun i _ _ => upS_i (by omega)) (fun o _ _ => upS_of (by omega)) (fun i _ => upS_i (by omega)) (fun o _ _ => upS_of (by omega)) h ?_, fun o ho => upS_of (by omega)⟩
  exact ⟨by simp (disch := omega) only [upS_h, upS_o, upS_i, Int.reduceAdd, Int.reduceSub, Int.reduceMul, Int.reduceNeg], fun i h1 h2 => by rw [upS_h ⟨rfl, rfl⟩] at h2; omega⟩
theorem wf_clear {α : St} (hw : WF α) : WF (aClr α) := by
  unfold aClr
  refine WF_chX (fun i _ => upS_i (by omega)) (fun o _ _ => upS_of (by omega)) hw ⟨by simp (disch := omega) only [upS_h, upS_o, upS_i, Int.reduceAdd, Int.reduceSub, Int.reduceMul, Int.reduceNeg]; omega, by simp (disch := omega) only [upS_h, upS_o, upS_i, Int.reduceAdd, Int.reduceSub, Int.reduceMul, Int.reduceNeg]; omega, fun i h1 h2 => by rw [upS_h ⟨rfl, rfl⟩] at h2; omega⟩
def rTyp (α : St) (a : Int) : Int := if 0 ≤ a ∧ a ≤ 127 then (if α 0 6 < 120 then α 0 6 + 1 else -4) else -2
def aTyp (α : St) (a : Int) : St := if 0 ≤ a ∧ a ≤ 127 then (if α 0 6 < 120 then upS (upS α 11 (α 0 6) a) 0 6 (α 0 6 + 1) else aR α 5) else aR α 3
theorem xc_type {σ α : St} {a : Int} (h : IC σ α) (hw : WF α) (ha : inR a) : oC (f_X9_type σ a) σ α (rTyp α a) (aTyp α a) := by
  unfold inR at ha
  obtain ⟨w1, w2, w3⟩ := hw.2.2.2.1
  obtain ⟨h1, h2⟩ := h.2.2.2.1
  unfold f_X9_type rTyp aTyp f_X6_add
  by_cases c : 0 ≤ a ∧ a ≤ 127
  · by_cases c2 : α 0 6 < 120
    · simp (disch := omega) only [↓rdA_t, ↓wrA_t, ↓ixA_t, ↓wrF_d, ↓bd2_s, ↓bd1_s, ↓bnd_d, ↓iww_t, ↓iww_f, ↓iwl_t, ↓iwl_f, ↓ilw_t, ↓ilw_f, ↓eww_t, ↓eww_f, ↓ewl_t, ↓ewl_f, ↓ez_t, ↓ez_f, ↓il_t, ↓il_f, il_t, il_f, ez_t, ez_f, if_true, if_false, upS_h, upS_o, upS_i, Int.reduceAdd, Int.reduceSub, Int.reduceMul, Int.reduceNeg, wI_id, within_t, if_pos c, if_pos c2, h1]
      refine ⟨_, rfl, IC_chX (fun o _ _ => by rw [upS_of (by omega), upS_of (by omega)]) (fun i _ => by rw [upS_i (by omega), upS_o (by omega)]) (fun o _ _ => by rw [upS_of (by omega), upS_of (by omega)]) h ⟨by simp (disch := omega) only [upS_h, upS_o, upS_i, Int.reduceAdd, Int.reduceSub, Int.reduceMul, Int.reduceNeg, h1], fun i h3 h4 => ?_⟩, fun o ho => by rw [upS_of (by omega), upS_of (by omega)]⟩
      rw [upS_h ⟨rfl, rfl⟩] at h4
      by_cases c3 : i = α 0 6
      · subst c3
        simp (disch := omega) only [upS_h, upS_o, upS_i, Int.reduceAdd, Int.reduceSub, Int.reduceMul, Int.reduceNeg]
      · simp (disch := omega) only [upS_h, upS_o, upS_i, Int.reduceAdd, Int.reduceSub, Int.reduceMul, Int.reduceNeg, h2 i h3 (by omega)]
    · simp (disch := omega) only [↓rdA_t, ↓wrA_t, ↓ixA_t, ↓wrF_d, ↓bd2_s, ↓bd1_s, ↓bnd_d, ↓iww_t, ↓iww_f, ↓iwl_t, ↓iwl_f, ↓ilw_t, ↓ilw_f, ↓eww_t, ↓eww_f, ↓ewl_t, ↓ewl_f, ↓ez_t, ↓ez_f, ↓il_t, ↓il_f, il_t, il_f, ez_t, ez_f, if_true, if_false, upS_h, upS_o, upS_i, Int.reduceAdd, Int.reduceSub, Int.reduceMul, Int.reduceNeg, wI_id, within_t, if_pos c, if_neg c2, h1]
      exact oC_id (oC_full h)
  · simp (disch := omega) only [↓rdA_t, ↓wrA_t, ↓ixA_t, ↓wrF_d, ↓bd2_s, ↓bd1_s, ↓bnd_d, ↓iww_t, ↓iww_f, ↓iwl_t, ↓iwl_f, ↓ilw_t, ↓ilw_f, ↓eww_t, ↓eww_f, ↓ewl_t, ↓ewl_f, ↓ez_t, ↓ez_f, ↓il_t, ↓il_f, il_t, il_f, ez_t, ez_f, if_true, if_false, upS_h, upS_o, upS_i, Int.reduceAdd, Int.reduceSub, Int.reduceMul, Int.reduceNeg, wI_id, within_f, if_neg c]
    exact oC_id (oC_bad h)
theorem xm_type {σ α : St} {a : Int} (h : IM σ α) (hw : WF α) (ha : inR a) : oM (f_X10_type σ a) σ α (rTyp α a) (aTyp α a) := by
  unfold inR at ha
  obtain ⟨w1, w2, w3⟩ := hw.2.2.2.1
  obtain ⟨h1, h2⟩ := h.2.2.2.1
  unfold f_X10_type rTyp aTyp
  by_cases c : 0 ≤ a ∧ a ≤ 127
  · by_cases c2 : α 0 6 < 120
    · simp (disch := omega) only [↓rdA_t, ↓wrA_t, ↓ixA_t, ↓wrF_d, ↓bd2_s, ↓bd1_s, ↓bnd_d, ↓iww_t, ↓iww_f, ↓iwl_t, ↓iwl_f, ↓ilw_t, ↓ilw_f, ↓eww_t, ↓eww_f, ↓ewl_t, ↓ewl_f, ↓ez_t, ↓ez_f, ↓il_t, ↓il_f, il_t, il_f, ez_t, ez_f, if_true, if_false, upS_h, upS_o, upS_i, Int.reduceAdd, Int.reduceSub, Int.reduceMul, Int.reduceNeg, wI_id, in_t, if_pos c, if_pos c2, h1]
      refine ⟨_, rfl, IM_chX (fun i _ _ => by rw [upS_i (by omega), upS_o (by omega)]) (fun o _ _ => by rw [upS_of (by omega), upS_of (by omega)]) (fun i _ => by rw [upS_i (by omega), upS_o (by omega)]) (fun o _ _ => by rw [upS_of (by omega), upS_of (by omega)]) h ⟨by simp (disch := omega) only [upS_h, upS_o, upS_i, Int.reduceAdd, Int.reduceSub, Int.reduceMul, Int.reduceNeg, h1], fun i h3 h4 => ?_⟩, fun o ho => by rw [upS_of (by omega), upS_of (by omega)]⟩
      rw [upS_h ⟨rfl, rfl⟩] at h4
      by_cases c3 : i = α 0 6
      · subst c3
        simp (disch := omega) only [upS_h, upS_o, upS_i, Int.reduceAdd, Int.reduceSub, Int.reduceMul, Int.reduceNeg]
      · simp (disch := omega) only [upS_h, upS_o, upS_i, Int.reduceAdd, Int.reduceSub, Int.reduceMul, Int.reduceNeg, h2 i h3 (by omega)]
    · simp (disch := omega) only [↓rdA_t, ↓wrA_t, ↓ixA_t, ↓wrF_d, ↓bd2_s, ↓bd1_s, ↓bnd_d, ↓iww_t, ↓iww_f, ↓iwl_t, ↓iwl_f, ↓ilw_t, ↓ilw_f, ↓eww_t, ↓eww_f, ↓ewl_t, ↓ewl_f, ↓ez_t, ↓ez_f, ↓il_t, ↓il_f, il_t, il_f, ez_t, ez_f, if_true, if_false, upS_h, upS_o, upS_i, Int.reduceAdd, Int.reduceSub, Int.reduceMul, Int.reduceNeg, wI_id, in_t, if_pos c, if_neg c2, h1]
      exact oM_id (oM_full h)
  · simp (disch := omega) only [↓rdA_t, ↓wrA_t, ↓ixA_t, ↓wrF_d, ↓bd2_s, ↓bd1_s, ↓bnd_d, ↓iww_t, ↓iww_f, ↓iwl_t, ↓iwl_f, ↓ilw_t, ↓ilw_f, ↓eww_t, ↓eww_f, ↓ewl_t, ↓ewl_f, ↓ez_t, ↓ez_f, ↓il_t, ↓il_f, il_t, il_f, ez_t, ez_f, if_true, if_false, upS_h, upS_o, upS_i, Int.reduceAdd, Int.reduceSub, Int.reduceMul, Int.reduceNeg, wI_id, in_f, if_neg c]
    exact oM_id (oM_bad (-2) h)
theorem wf_type {α : St} {a : Int} (hw : WF α) : WF (aTyp α a) := by
  obtain ⟨w1, w2, w3⟩ := hw.2.2.2.1
  unfold aTyp
  by_cases c : 0 ≤ a ∧ a ≤ 127
  · rw [if_pos c]
    by_cases c2 : α 0 6 < 120
    · rw [if_pos c2]
      refine WF_chX (fun i _ => by rw [upS_i (by omega), upS_o (by omega)]) (fun o _ _ => by rw [upS_of (by omega), upS_of (by omega)]) hw ⟨by simp (disch := omega) only [upS_h, upS_o, upS_i, Int.reduceAdd, Int.reduceSub, Int.reduceMul, Int.reduceNeg]; omega, by simp (disch := omega) only [upS_h, upS_o, upS_i, Int.reduceAdd, Int.reduceSub, Int.reduceMul, Int.reduceNeg]; omega, fun i h3 h4 => ?_⟩
      rw [upS_h ⟨rfl, rfl⟩] at h4
      by_cases c3 : i = α 0 6
      · subst c3
        simp (disch := omega) only [upS_h, upS_o, upS_i, Int.reduceAdd, Int.reduceSub, Int.reduceMul, Int.reduceNeg]
        exact c
      · simp (disch := omega) only [upS_h, upS_o, upS_i, Int.reduceAdd, Int.reduceSub, Int.reduceMul, Int.reduceNeg]
        exact w3 i h3 (by omega)
    · rw [if_neg c2]
      exact WF_aR 5 (by omega) hw
  · rw [if_neg c]
    exact WF_aR 3 (by omega) hw
def rOth (α : St) (a b : Int) : Int := if (0 ≤ a ∧ a ≤ 5) ∧ 0 ≤ b ∧ b ≤ 5 then α 10 a else -2
def aOth (α : St) (a b : Int) : St := if (0 ≤ a ∧ a ≤ 5) ∧ 0 ≤ b ∧ b ≤ 5 then upS α 10 a b else aR α 3
theorem xc_other {σ α : St} {a b : Int} (h : IC σ α) (ha : inR a) (hb : inR b) : oC (f_X9_other σ a b) σ α (rOth α a b) (aOth α a b) := by
  unfold inR at ha hb
  obtain ⟨h1, h2, h3, h4, h5, h6⟩ := h.2.2.1
  unfold f_X9_other rOth aOth f_X9_isSound
  by_cases c : 0 ≤ a ∧ a ≤ 5
  · by_cases c2 : 0 ≤ b ∧ b ≤ 5
    · simp (disch := omega) only [↓rdA_t, ↓wrA_t, ↓ixA_t, ↓wrF_d, ↓bd2_s, ↓bd1_s, ↓bnd_d, ↓iww_t, ↓iww_f, ↓iwl_t, ↓iwl_f, ↓ilw_t, ↓ilw_f, ↓eww_t, ↓eww_f, ↓ewl_t, ↓ewl_f, ↓ez_t, ↓ez_f, ↓il_t, ↓il_f, il_t, il_f, ez_t, ez_f, if_true, if_false, upS_h, upS_o, upS_i, Int.reduceAdd, Int.reduceSub, Int.reduceMul, Int.reduceNeg, wI_id, within_t, if_pos (And.intro c c2)]
      refine ⟨_, by rw [h5 a c.1 (by omega)], IC_chK (fun o _ _ => upS_of (by omega)) (fun i _ => upS_o (by omega)) (fun o _ _ => upS_of (by omega)) h ⟨by simp (disch := omega) only [upS_h, upS_o, upS_i, Int.reduceAdd, Int.reduceSub, Int.reduceMul, Int.reduceNeg, h1], by simp (disch := omega) only [upS_h, upS_o, upS_i, Int.reduceAdd, Int.reduceSub, Int.reduceMul, Int.reduceNeg, h2], by simp (disch := omega) only [upS_h, upS_o, upS_i, Int.reduceAdd, Int.reduceSub, Int.reduceMul, Int.reduceNeg, h3], by simp (disch := omega) only [upS_h, upS_o, upS_i, Int.reduceAdd, Int.reduceSub, Int.reduceMul, Int.reduceNeg, h4], fun q p1 p2 => ?_, by simp (disch := omega) only [upS_h, upS_o, upS_i, Int.reduceAdd, Int.reduceSub, Int.reduceMul, Int.reduceNeg, h6.1], by simp (disch := omega) only [upS_h, upS_o, upS_i, Int.reduceAdd, Int.reduceSub, Int.reduceMul, Int.reduceNeg, h6.2.1], by simp (disch := omega) only [upS_h, upS_o, upS_i, Int.reduceAdd, Int.reduceSub, Int.reduceMul, Int.reduceNeg, h6.2.2.1], by simp (disch := omega) only [upS_h, upS_o, upS_i, Int.reduceAdd, Int.reduceSub, Int.reduceMul, Int.reduceNeg, h6.2.2.2]⟩, fun o ho => upS_of (by omega)⟩
      by_cases c3 : q = a
      · simp (disch := omega) only [upS_h, upS_o, upS_i, Int.reduceAdd, Int.reduceSub, Int.reduceMul, Int.reduceNeg]
      · simp (disch := omega) only [upS_h, upS_o, upS_i, Int.reduceAdd, Int.reduceSub, Int.reduceMul, Int.reduceNeg, h5 q p1 p2]
    · simp (disch := omega) only [↓rdA_t, ↓wrA_t, ↓ixA_t, ↓wrF_d, ↓bd2_s, ↓bd1_s, ↓bnd_d, ↓iww_t, ↓iww_f, ↓iwl_t, ↓iwl_f, ↓ilw_t, ↓ilw_f, ↓eww_t, ↓eww_f, ↓ewl_t, ↓ewl_f, ↓ez_t, ↓ez_f, ↓il_t, ↓il_f, il_t, il_f, ez_t, ez_f, if_true, if_false, upS_h, upS_o, upS_i, Int.reduceAdd, Int.reduceSub, Int.reduceMul, Int.reduceNeg, wI_id, within_t, within_f, if_neg (fun z : (0 ≤ a ∧ a ≤ 5) ∧ 0 ≤ b ∧ b ≤ 5 => c2 z.2)]
      exact oC_id (oC_bad h)
  · simp (disch := omega) only [↓rdA_t, ↓wrA_t, ↓ixA_t, ↓wrF_d, ↓bd2_s, ↓bd1_s, ↓bnd_d, ↓iww_t, ↓iww_f, ↓iwl_t, ↓iwl_f, ↓ilw_t, ↓ilw_f, ↓eww_t, ↓eww_f, ↓ewl_t, ↓ewl_f, ↓ez_t, ↓ez_f, ↓il_t, ↓il_f, il_t, il_f, ez_t, ez_f, if_true, if_false, upS_h, upS_o, upS_i, Int.reduceAdd, Int.reduceSub, Int.reduceMul, Int.reduceNeg, wI_id, within_f, if_neg (fun z : (0 ≤ a ∧ a ≤ 5) ∧ 0 ≤ b ∧ b ≤ 5 => c z.1)]
    exact oC_id (oC_bad h)
theorem xm_other {σ α : St} {a b : Int} (h : IM σ α) (ha : inR a) (hb : inR b) : oM (f_X10_other σ a b) σ α (rOth α a b) (aOth α a b) := by
  unfold inR at ha hb
  obtain ⟨h1, h2, h3, h4, h5, h6⟩ := h.2.2.1
  unfold f_X10_other rOth aOth f_X10_isSound
  by_cases c : 0 ≤ a ∧ a ≤ 5
  · by_cases c2 : 0 ≤ b ∧ b ≤ 5
    · simp (disch := omega) only [↓rdA_t, ↓wrA_t, ↓ixA_t, ↓wrF_d, ↓bd2_s, ↓bd1_s, ↓bnd_d, ↓iww_t, ↓iww_f, ↓iwl_t, ↓iwl_f, ↓ilw_t, ↓ilw_f, ↓eww_t, ↓eww_f, ↓ewl_t, ↓ewl_f, ↓ez_t, ↓ez_f, ↓il_t, ↓il_f, il_t, il_f, ez_t, ez_f, if_true, if_false, upS_h, upS_o, upS_i, Int.reduceAdd, Int.reduceSub, Int.reduceMul, Int.reduceNeg, wI_id, in_t, if_pos (And.intro c c2)]
      refine ⟨_, by rw [h5 a c.1 (by omega)], IM_chK (fun i _ _ _ => upS_o (by omega)) (fun o _ _ _ _ => upS_of (by omega)) (fun i _ => upS_o (by omega)) (fun o _ _ => upS_of (by omega)) h ⟨by simp (disch := omega) only [upS_h, upS_o, upS_i, Int.reduceAdd, Int.reduceSub, Int.reduceMul, Int.reduceNeg, h1], by simp (disch := omega) only [upS_h, upS_o, upS_i, Int.reduceAdd, Int.reduceSub, Int.reduceMul, Int.reduceNeg, h2], by simp (disch := omega) only [upS_h, upS_o, upS_i, Int.reduceAdd, Int.reduceSub, Int.reduceMul, Int.reduceNeg, h3], by simp (disch := omega) only [upS_h, upS_o, upS_i, Int.reduceAdd, Int.reduceSub, Int.reduceMul, Int.reduceNeg, h4], fun q p1 p2 => ?_, by simp (disch := omega) only [upS_h, upS_o, upS_i, Int.reduceAdd, Int.reduceSub, Int.reduceMul, Int.reduceNeg, h6]⟩, fun o ho => upS_of (by omega)⟩
      by_cases c3 : q = a
      · simp (disch := omega) only [upS_h, upS_o, upS_i, Int.reduceAdd, Int.reduceSub, Int.reduceMul, Int.reduceNeg]
      · simp (disch := omega) only [upS_h, upS_o, upS_i, Int.reduceAdd, Int.reduceSub, Int.reduceMul, Int.reduceNeg, h5 q p1 p2]
    · simp (disch := omega) only [↓rdA_t, ↓wrA_t, ↓ixA_t, ↓wrF_d, ↓bd2_s, ↓bd1_s, ↓bnd_d, ↓iww_t, ↓iww_f, ↓iwl_t, ↓iwl_f, ↓ilw_t, ↓ilw_f, ↓eww_t, ↓eww_f, ↓ewl_t, ↓ewl_f, ↓ez_t, ↓ez_f, ↓il_t, ↓il_f, il_t, il_f, ez_t, ez_f, if_true, if_false, upS_h, upS_o, upS_i, Int.reduceAdd, Int.reduceSub, Int.reduceMul, Int.reduceNeg, wI_id, in_t, in_f, if_neg (fun z : (0 ≤ a ∧ a ≤ 5) ∧ 0 ≤ b ∧ b ≤ 5 => c2 z.2)]
      exact oM_id (oM_bad (-2) h)
  · simp (disch := omega) only [↓rdA_t, ↓wrA_t, ↓ixA_t, ↓wrF_d, ↓bd2_s, ↓bd1_s, ↓bnd_d, ↓iww_t, ↓iww_f, ↓iwl_t, ↓iwl_f, ↓ilw_t, ↓ilw_f, ↓eww_t, ↓eww_f, ↓ewl_t, ↓ewl_f, ↓ez_t, ↓ez_f, ↓il_t, ↓il_f, il_t, il_f, ez_t, ez_f, if_true, if_false, upS_h, upS_o, upS_i, Int.reduceAdd, Int.reduceSub, Int.reduceMul, Int.reduceNeg, wI_id, in_f, if_neg (fun z : (0 ≤ a ∧ a ≤ 5) ∧ 0 ≤ b ∧ b ≤ 5 => c z.1)]
    exact oM_id (oM_bad (-2) h)
theorem wf_other {α : St} {a b : Int} (hw : WF α) : WF (aOth α a b) := by
  unfold aOth
  by_cases c : (0 ≤ a ∧ a ≤ 5) ∧ 0 ≤ b ∧ b ≤ 5
  · rw [if_pos c]
    refine WF_chK (fun i _ => upS_o (by omega)) (fun o _ _ => upS_of (by omega)) hw ⟨by simp (disch := omega) only [upS_h, upS_o, upS_i, Int.reduceAdd, Int.reduceSub, Int.reduceMul, Int.reduceNeg]; exact hw.2.2.1.1, fun q p1 p2 => ?_⟩
    by_cases c3 : q = a
    · simp (disch := omega) only [upS_h, upS_o, upS_i, Int.reduceAdd, Int.reduceSub, Int.reduceMul, Int.reduceNeg]
      exact c.2
    · simp (disch := omega) only [upS_h, upS_o, upS_i, Int.reduceAdd, Int.reduceSub, Int.reduceMul, Int.reduceNeg]
      exact hw.2.2.1.2 q p1 p2
  · rw [if_neg c]
    exact WF_aR 3 (by omega) hw
def rTld (α : St) (a : Int) : Int := if a = 0 then α 0 3 else if a = 1 then α 0 4 else if a = 2 then α 0 5 else if a = 3 then α 0 6 else if a = 4 then α 0 0 else if a = 5 then α 0 1 else if a = 6 then α 0 2 else -2
def aTld (α : St) (a : Int) : St := if 0 ≤ a ∧ a ≤ 6 then α else aR α 3
theorem xc_told {σ α : St} {a : Int} (h : IC σ α) (ha : inR a) : oC (f_X9_told σ a) σ α (rTld α a) (aTld α a) := by
  unfold inR at ha
  obtain ⟨h1, h2, h3, h4, h5, h6⟩ := h.2.2.1
  have hu := h.1.1
  have hr := h.2.1.1
  have hx := h.2.2.2.1.1
  unfold f_X9_told rTld aTld
  by_cases c : 0 ≤ a ∧ a ≤ 6
  · rw [if_pos c]
    have : a = 0 ∨ a = 1 ∨ a = 2 ∨ a = 3 ∨ a = 4 ∨ a = 5 ∨ a = 6 := by omega
    rcases this with rfl | rfl | rfl | rfl | rfl | rfl | rfl <;> (simp (disch := omega) only [↓rdA_t, ↓wrA_t, ↓ixA_t, ↓wrF_d, ↓bd2_s, ↓bd1_s, ↓bnd_d, ↓iww_t, ↓iww_f, ↓iwl_t, ↓iwl_f, ↓ilw_t, ↓ilw_f, ↓eww_t, ↓eww_f, ↓ewl_t, ↓ewl_f, ↓ez_t, ↓ez_f, ↓il_t, ↓il_f, il_t, il_f, ez_t, ez_f, if_true, if_false, upS_h, upS_o, upS_i, Int.reduceAdd, Int.reduceSub, Int.reduceMul, Int.reduceNeg, wI_id]; exact ⟨σ, by simp only [h1, h2, h3, h4, hu, hr, hx], h, fun _ _ => rfl⟩)
  · rw [if_neg c]
    simp (disch := omega) only [↓rdA_t, ↓wrA_t, ↓ixA_t, ↓wrF_d, ↓bd2_s, ↓bd1_s, ↓bnd_d, ↓iww_t, ↓iww_f, ↓iwl_t, ↓iwl_f, ↓ilw_t, ↓ilw_f, ↓eww_t, ↓eww_f, ↓ewl_t, ↓ewl_f, ↓ez_t, ↓ez_f, ↓il_t, ↓il_f, il_t, il_f, ez_t, ez_f, if_true, if_false, upS_h, upS_o, upS_i, Int.reduceAdd, Int.reduceSub, Int.reduceMul, Int.reduceNeg, wI_id]
    exact oC_id (oC_bad h)
theorem m_toldOf {σ α : St} {a : Int} (h : IM σ α) (c : 0 ≤ a ∧ a ≤ 6) : f_X10_toldOf σ a = some (rTld α a) := by
  obtain ⟨h1, h2, h3, h4, h5, h6⟩ := h.2.2.1
  have hu := h.1.1
  have hr := h.2.1.1
  have hx := h.2.2.2.1.1
  unfold f_X10_toldOf rTld
  have : a = 0 ∨ a = 1 ∨ a = 2 ∨ a = 3 ∨ a = 4 ∨ a = 5 ∨ a = 6 := by omega
  rcases this with rfl | rfl | rfl | rfl | rfl | rfl | rfl <;> (simp (disch := omega) only [↓rdA_t, ↓wrA_t, ↓ixA_t, ↓wrF_d, ↓bd2_s, ↓bd1_s, ↓bnd_d, ↓iww_t, ↓iww_f, ↓iwl_t, ↓iwl_f, ↓ilw_t, ↓ilw_f, ↓eww_t, ↓eww_f, ↓ewl_t, ↓ewl_f, ↓ez_t, ↓ez_f, ↓il_t, ↓il_f, il_t, il_f, ez_t, ez_f, if_true, if_false, upS_h, upS_o, upS_i, Int.reduceAdd, Int.reduceSub, Int.reduceMul, Int.reduceNeg, wI_id, h1, h2, h3, h4, hu, hr, hx])
theorem xm_told {σ α : St} {a : Int} (h : IM σ α) (ha : inR a) : oM (f_X10_told σ a) σ α (rTld α a) (aTld α a) := by
  unfold inR at ha
  unfold f_X10_told aTld
  by_cases c : 0 ≤ a ∧ a ≤ 6
  · rw [if_pos c, m_toldOf h c]
    simp (disch := omega) only [↓rdA_t, ↓wrA_t, ↓ixA_t, ↓wrF_d, ↓bd2_s, ↓bd1_s, ↓bnd_d, ↓iww_t, ↓iww_f, ↓iwl_t, ↓iwl_f, ↓ilw_t, ↓ilw_f, ↓eww_t, ↓eww_f, ↓ewl_t, ↓ewl_f, ↓ez_t, ↓ez_f, ↓il_t, ↓il_f, il_t, il_f, ez_t, ez_f, if_true, if_false, upS_h, upS_o, upS_i, Int.reduceAdd, Int.reduceSub, Int.reduceMul, Int.reduceNeg, wI_id, in_t]
    exact oM_ret _ h
  · rw [if_neg c]
    unfold rTld
    simp (disch := omega) only [↓rdA_t, ↓wrA_t, ↓ixA_t, ↓wrF_d, ↓bd2_s, ↓bd1_s, ↓bnd_d, ↓iww_t, ↓iww_f, ↓iwl_t, ↓iwl_f, ↓ilw_t, ↓ilw_f, ↓eww_t, ↓eww_f, ↓ewl_t, ↓ewl_f, ↓ez_t, ↓ez_f, ↓il_t, ↓il_f, il_t, il_f, ez_t, ez_f, if_true, if_false, upS_h, upS_o, upS_i, Int.reduceAdd, Int.reduceSub, Int.reduceMul, Int.reduceNeg, wI_id, in_f]
    exact oM_id (oM_bad (-2) h)
theorem wf_told {α : St} {a : Int} (hw : WF α) : WF (aTld α a) := by
  unfold aTld
  by_cases c : 0 ≤ a ∧ a ≤ 6
  · rw [if_pos c]; exact hw
  · rw [if_neg c]; exact WF_aR 3 (by omega) hw
end
section
/-! ===== empties ===== -/
def aEmp (α : St) : St := upS α 0 0 0
theorem xc_empties {σ α : St} (h : IC σ α) : oC (f_X9_empties σ) σ α (α 0 0) (aEmp α) := by
  unfold f_X9_empties f_X8_removeAll aEmp
  simp (disch := omega) only [↓rdA_t, ↓wrA_t, ↓ixA_t, ↓wrF_d, ↓bd2_s, ↓bd1_s, ↓bnd_d, ↓iww_t, ↓iww_f, ↓iwl_t, ↓iwl_f, ↓ilw_t, ↓ilw_f, ↓eww_t, ↓eww_f, ↓ewl_t, ↓ewl_f, ↓ez_t, ↓ez_f, ↓il_t, ↓il_f, il_t, il_f, ez_t, ez_f, if_true, if_false, upS_h, upS_o, upS_i, Int.reduceAdd, Int.reduceSub, Int.reduceMul, Int.reduceNeg, wI_id]
  rw [lp_X8_removeAll_7]
  simp (disch := omega) only [↓rdA_t, ↓wrA_t, ↓ixA_t, ↓wrF_d, ↓bd2_s, ↓bd1_s, ↓bnd_d, ↓iww_t, ↓iww_f, ↓iwl_t, ↓iwl_f, ↓ilw_t, ↓ilw_f, ↓eww_t, ↓eww_f, ↓ewl_t, ↓ewl_f, ↓ez_t, ↓ez_f, ↓il_t, ↓il_f, il_t, il_f, ez_t, ez_f, if_true, if_false, upS_h, upS_o, upS_i, Int.reduceAdd, Int.reduceSub, Int.reduceMul, Int.reduceNeg, wI_id]
  rw [lp_X8_removeAll_7]
  simp (disch := omega) only [↓rdA_t, ↓wrA_t, ↓ixA_t, ↓wrF_d, ↓bd2_s, ↓bd1_s, ↓bnd_d, ↓iww_t, ↓iww_f, ↓iwl_t, ↓iwl_f, ↓ilw_t, ↓ilw_f, ↓eww_t, ↓eww_f, ↓ewl_t, ↓ewl_f, ↓ez_t, ↓ez_f, ↓il_t, ↓il_f, il_t, il_f, ez_t, ez_f, if_true, if_false, upS_h, upS_o, upS_i, Int.reduceAdd, Int.reduceSub, Int.reduceMul, Int.reduceNeg, wI_id]
  rw [lp_X8_removeAll_7]
  simp (disch := omega) only [↓rdA_t, ↓wrA_t, ↓ixA_t, ↓wrF_d, ↓bd2_s, ↓bd1_s, ↓bnd_d, ↓iww_t, ↓iww_f, ↓iwl_t, ↓iwl_f, ↓ilw_t, ↓ilw_f, ↓eww_t, ↓eww_f, ↓ewl_t, ↓ewl_f, ↓ez_t, ↓ez_f, ↓il_t, ↓il_f, il_t, il_f, ez_t, ez_f, if_true, if_false, upS_h, upS_o, upS_i, Int.reduceAdd, Int.reduceSub, Int.reduceMul, Int.reduceNeg, wI_id]
  rw [lp_X8_removeAll_7]
  simp (disch := omega) only [↓rdA_t, ↓wrA_t, ↓ixA_t, ↓wrF_d, ↓bd2_s, ↓bd1_s, ↓bnd_d, ↓iww_t, ↓iww_f, ↓iwl_t, ↓iwl_f, ↓ilw_t, ↓ilw_f, ↓eww_t, ↓eww_f, ↓ewl_t, ↓ewl_f, ↓ez_t, ↓ez_f, ↓il_t, ↓il_f, il_t, il_f, ez_t, ez_f, if_true, if_false, upS_h, upS_o, upS_i, Int.reduceAdd, Int.reduceSub, Int.reduceMul, Int.reduceNeg, wI_id]
  rw [lp_X8_removeAll_7]
  simp (disch := omega) only [↓rdA_t, ↓wrA_t, ↓ixA_t, ↓wrF_d, ↓bd2_s, ↓bd1_s, ↓bnd_d, ↓iww_t, ↓iww_f, ↓iwl_t, ↓iwl_f, ↓ilw_t, ↓ilw_f, ↓eww_t, ↓eww_f, ↓ewl_t, ↓ewl_f, ↓ez_t, ↓ez_f, ↓il_t, ↓il_f, il_t, il_f, ez_t, ez_f, if_true, if_false, upS_h, upS_o, upS_i, Int.reduceAdd, Int.reduceSub, Int.reduceMul, Int.reduceNeg, wI_id]
  refine ⟨_, by rw [h.1.1], IC_chU (fun o ho => by simp (disch := omega) only [upS_of]) (fun i _ => upS_i (by omega)) (fun o _ => upS_of (by omega)) h ⟨by simp (disch := omega) only [upS_h, upS_o, upS_i, Int.reduceAdd, Int.reduceSub, Int.reduceMul, Int.reduceNeg], fun u h1 h2 => ?_, fun t h1 h2 => ?_⟩, fun o ho => by simp (disch := omega) only [upS_of]⟩
  · rw [upS_h ⟨rfl, rfl⟩] at h2; omega
  · left
    have : t = 0 ∨ t = 1 ∨ t = 2 ∨ t = 3 := by omega
    refine ⟨?_, fun v h3 h4 => by rw [upS_h ⟨rfl, rfl⟩] at h4; omega⟩
    rcases this with rfl | rfl | rfl | rfl <;> simp (disch := omega) only [upS_h, upS_o, upS_i, Int.reduceAdd, Int.reduceSub, Int.reduceMul, Int.reduceNeg]
theorem xm_empties {σ α : St} (h : IM σ α) : oM (f_X10_empties σ) σ α (α 0 0) (aEmp α) := by
  unfold f_X10_empties aEmp
  simp (disch := omega) only [↓rdA_t, ↓wrA_t, ↓ixA_t, ↓wrF_d, ↓bd2_s, ↓bd1_s, ↓bnd_d, ↓iww_t, ↓iww_f, ↓iwl_t, ↓iwl_f, ↓ilw_t, ↓ilw_f, ↓eww_t, ↓eww_f, ↓ewl_t, ↓ewl_f, ↓ez_t, ↓ez_f, ↓il_t, ↓il_f, il_t, il_f, ez_t, ez_f, if_true, if_false, upS_h, upS_o, upS_i, Int.reduceAdd, Int.reduceSub, Int.reduceMul, Int.reduceNeg, wI_id]
  refine ⟨_, by rw [h.1.1], IM_chU (fun i _ _ => upS_i (by omega)) (fun o _ _ => upS_of (by omega)) (fun i _ => upS_i (by omega)) (fun o _ => upS_of (by omega)) h ⟨by simp (disch := omega) only [upS_h, upS_o, upS_i, Int.reduceAdd, Int.reduceSub, Int.reduceMul, Int.reduceNeg], fun u w h1 h2 _ _ => ?_⟩, fun o ho => upS_of (by omega)⟩
  rw [upS_h ⟨rfl, rfl⟩] at h2; omega
theorem wf_empties {α : St} (hw : WF α) : WF (aEmp α) := by
  unfold aEmp
  exact WF_chU (fun i _ => upS_i (by omega)) (fun o _ => upS_of (by omega)) hw ⟨by simp (disch := omega) only [upS_h, upS_o, upS_i, Int.reduceAdd, Int.reduceSub, Int.reduceMul, Int.reduceNeg]; omega, by simp (disch := omega) only [upS_h, upS_o, upS_i, Int.reduceAdd, Int.reduceSub, Int.reduceMul, Int.reduceNeg]; omega, fun u h1 h2 => by rw [upS_h ⟨rfl, rfl⟩] at h2; omega⟩
/-! ===== the next one of a take ===== -/
theorem isNxt_u {α : St} {u r q : Int} (h1 : isNxt α u r) (h2 : isNxt α u q) : r = q := by
  rcases h1 with ⟨a1, a2⟩ | ⟨a1, a2, a3, a4⟩ <;> rcases h2 with ⟨b1, b2⟩ | ⟨b1, b2, b3, b4⟩
  · omega
  · exact absurd b3 (a2 q b1 b2)
  · exact absurd a3 (b2 r a1 a2)
  · rcases Int.lt_trichotomy r q with h | h | h
    · exact absurd a3 (b4 r a1 h)
    · exact h
    · exact absurd b3 (a4 q b1 h)
def nxG (α : St) (u : Int) : Nat → Int → Int
  | 0, _ => -1
  | f + 1, v => if v < α 0 0 then (if α 6 v = α 6 u then v else nxG α u f (v + 1)) else -1
def nxS (α : St) (u : Int) : Int := nxG α u 50 (u + 1)
theorem nxG_is {α : St} (u : Int) : ∀ (f : Nat) (v : Int), u < v → α 0 0 - v < f → (∀ w, u < w → w < v → α 6 w ≠ α 6 u) → isNxt α u (nxG α u f v) := by
  intro f
  induction f with
  | zero => intro v h1 h2 h3; left; exact ⟨rfl, fun w h4 h5 => h3 w h4 (by omega)⟩
  | succ f ih =>
    intro v h1 h2 h3
    unfold nxG
    by_cases c : v < α 0 0
    · rw [if_pos c]
      by_cases c2 : α 6 v = α 6 u
      · rw [if_pos c2]; right; exact ⟨h1, c, c2, h3⟩
      · rw [if_neg c2]
        refine ih (v + 1) (by omega) (by omega) (fun w h4 h5 => ?_)
        by_cases c3 : w = v
        · rw [c3]; exact c2
        · exact h3 w h4 (by omega)
    · rw [if_neg c]; left; exact ⟨rfl, fun w h4 h5 => h3 w h4 (by omega)⟩
theorem nxS_is {α : St} {u : Int} (hw : wU α) (h0 : 0 ≤ u) : isNxt α u (nxS α u) := nxG_is u 50 (u + 1) (by omega) (by have := hw.2.1; omega) (fun w h1 h2 => by omega)
theorem nxt_r {α : St} {u r : Int} (hw : wU α) (h0 : 0 ≤ u) (h : isNxt α u r) : -1 ≤ r ∧ r < 40 := by
  have := hw.2.1
  rcases h with ⟨a1, a2⟩ | ⟨a1, a2, a3, a4⟩ <;> omega
theorem c_foll {σ α : St} {u : Int} (h : cU σ α) (hw : wU α) (h0 : 0 ≤ u) (h1 : u < α 0 0) : σ 8 u = nxS α u := isNxt_u (h.2.1 u h0 h1).2.2.2.2.2.2 (nxS_is hw h0)
/-- the reference's row of units -/
theorem m_at {σ α : St} {u w : Int} (h : mU σ α) (hw : wU α) (h0 : 0 ≤ u) (h1 : u < α 0 0) (h2 : 0 ≤ w) (h3 : w < 6) : f_X10_at σ u w = some (α (1 + w) u) := by
  have := hw.2.1
  unfold f_X10_at
  simp (disch := omega) only [↓rdA_t, ↓wrA_t, ↓ixA_t, ↓wrF_d, ↓bd2_s, ↓bd1_s, ↓bnd_d, ↓iww_t, ↓iww_f, ↓iwl_t, ↓iwl_f, ↓ilw_t, ↓ilw_f, ↓eww_t, ↓eww_f, ↓ewl_t, ↓ewl_f, ↓ez_t, ↓ez_f, ↓il_t, ↓il_f, il_t, il_f, ez_t, ez_f, if_true, if_false, upS_h, upS_o, upS_i, Int.reduceAdd, Int.reduceSub, Int.reduceMul, Int.reduceNeg, wI_id, h.2 u w h0 h1 h2 h3]
theorem m_next_g {σ α : St} {u : Int} (h : mU σ α) (hw : wU α) (h0 : 0 ≤ u) (h1 : u < α 0 0) : ∀ (f : Nat) (v : Int), u < v → v ≤ α 0 0 → α 0 0 - v < f → ∀ n : Nat, f < n → lp_X10_nextOf_4 σ u (some (-1)) n v = some (nxG α u f v) := by
  have hn := hw.2.1
  have t1 := (hw.2.2 u h0 h1).2.2.2.2.2
  intro f
  induction f with
  | zero =>
    intro v a a2 b n hn2
    have hs := h.1
    obtain ⟨n, rfl⟩ : ∃ k, n = k + 1 := ⟨n - 1, by omega⟩
    exact absurd b (by omega)
  | succ f ih =>
    intro v a a2 b n hn2
    have hs := h.1
    obtain ⟨n, rfl⟩ : ∃ k, n = k + 1 := ⟨n - 1, by omega⟩
    rw [lp_X10_nextOf_4, nxG]
    by_cases c : v < α 0 0
    · have t2 := (hw.2.2 v (by omega) c).2.2.2.2.2
      rw [if_pos c]
      simp (disch := omega) only [↓rdA_t, ↓wrA_t, ↓ixA_t, ↓wrF_d, ↓bd2_s, ↓bd1_s, ↓bnd_d, ↓iww_t, ↓iww_f, ↓iwl_t, ↓iwl_f, ↓ilw_t, ↓ilw_f, ↓eww_t, ↓eww_f, ↓ewl_t, ↓ewl_f, ↓ez_t, ↓ez_f, ↓il_t, ↓il_f, il_t, il_f, ez_t, ez_f, if_true, if_false, upS_h, upS_o, upS_i, Int.reduceAdd, Int.reduceSub, Int.reduceMul, Int.reduceNeg, wI_id, h.1, m_at h hw (u := v) (w := 5) (by omega) c (by omega) (by omega), m_at h hw (u := u) (w := 5) h0 h1 (by omega) (by omega)]
      by_cases c2 : α 6 v = α 6 u
      · simp (disch := omega) only [↓rdA_t, ↓wrA_t, ↓ixA_t, ↓wrF_d, ↓bd2_s, ↓bd1_s, ↓bnd_d, ↓iww_t, ↓iww_f, ↓iwl_t, ↓iwl_f, ↓ilw_t, ↓ilw_f, ↓eww_t, ↓eww_f, ↓ewl_t, ↓ewl_f, ↓ez_t, ↓ez_f, ↓il_t, ↓il_f, il_t, il_f, ez_t, ez_f, if_true, if_false, upS_h, upS_o, upS_i, Int.reduceAdd, Int.reduceSub, Int.reduceMul, Int.reduceNeg, wI_id]
      · simp (disch := omega) only [↓rdA_t, ↓wrA_t, ↓ixA_t, ↓wrF_d, ↓bd2_s, ↓bd1_s, ↓bnd_d, ↓iww_t, ↓iww_f, ↓iwl_t, ↓iwl_f, ↓ilw_t, ↓ilw_f, ↓eww_t, ↓eww_f, ↓ewl_t, ↓ewl_f, ↓ez_t, ↓ez_f, ↓il_t, ↓il_f, il_t, il_f, ez_t, ez_f, if_true, if_false, upS_h, upS_o, upS_i, Int.reduceAdd, Int.reduceSub, Int.reduceMul, Int.reduceNeg, wI_id]
        exact ih (v + 1) (by omega) (by omega) (by omega) n (by omega)
    · rw [if_neg c]
      simp (disch := omega) only [↓rdA_t, ↓wrA_t, ↓ixA_t, ↓wrF_d, ↓bd2_s, ↓bd1_s, ↓bnd_d, ↓iww_t, ↓iww_f, ↓iwl_t, ↓iwl_f, ↓ilw_t, ↓ilw_f, ↓eww_t, ↓eww_f, ↓ewl_t, ↓ewl_f, ↓ez_t, ↓ez_f, ↓il_t, ↓il_f, il_t, il_f, ez_t, ez_f, if_true, if_false, upS_h, upS_o, upS_i, Int.reduceAdd, Int.reduceSub, Int.reduceMul, Int.reduceNeg, wI_id, h.1]
theorem m_next {σ α : St} {u : Int} (h : mU σ α) (hw : wU α) (h0 : 0 ≤ u) (h1 : u < α 0 0) : f_X10_nextOf σ u = some (nxS α u) := by
  unfold f_X10_nextOf nxS
  simp (disch := omega) only [↓rdA_t, ↓wrA_t, ↓ixA_t, ↓wrF_d, ↓bd2_s, ↓bd1_s, ↓bnd_d, ↓iww_t, ↓iww_f, ↓iwl_t, ↓iwl_f, ↓ilw_t, ↓ilw_f, ↓eww_t, ↓eww_f, ↓ewl_t, ↓ewl_f, ↓ez_t, ↓ez_f, ↓il_t, ↓il_f, il_t, il_f, ez_t, ez_f, if_true, if_false, upS_h, upS_o, upS_i, Int.reduceAdd, Int.reduceSub, Int.reduceMul, Int.reduceNeg, wI_id]
  exact m_next_g h hw h0 h1 50 (u + 1) (by omega) (by omega) (by have := hw.2.1; omega) 1000 (by omega)
/-! ===== of ===== -/
theorem c_isU {σ α : St} {a : Int} (h : cU σ α) (hw : wU α) (ha : inR a) : f_X9_isUnit σ a = if 0 ≤ a ∧ a < α 0 0 then 1 else 0 := by
  unfold inR at ha
  obtain ⟨w1, w2, w3⟩ := hw
  unfold f_X9_isUnit
  by_cases c : 0 ≤ a
  · by_cases c2 : a < α 0 0
    · rw [if_pos (show 0 ≤ a ∧ a < α 0 0 from ⟨c, c2⟩)]
      simp (disch := omega) only [↓rdA_t, ↓wrA_t, ↓ixA_t, ↓wrF_d, ↓bd2_s, ↓bd1_s, ↓bnd_d, ↓iww_t, ↓iww_f, ↓iwl_t, ↓iwl_f, ↓ilw_t, ↓ilw_f, ↓eww_t, ↓eww_f, ↓ewl_t, ↓ewl_f, ↓ez_t, ↓ez_f, ↓il_t, ↓il_f, il_t, il_f, ez_t, ez_f, if_true, if_false, upS_h, upS_o, upS_i, Int.reduceAdd, Int.reduceSub, Int.reduceMul, Int.reduceNeg, wI_id, h.1]
    · rw [if_neg (show ¬ (0 ≤ a ∧ a < α 0 0) by omega)]
      simp (disch := omega) only [↓rdA_t, ↓wrA_t, ↓ixA_t, ↓wrF_d, ↓bd2_s, ↓bd1_s, ↓bnd_d, ↓iww_t, ↓iww_f, ↓iwl_t, ↓iwl_f, ↓ilw_t, ↓ilw_f, ↓eww_t, ↓eww_f, ↓ewl_t, ↓ewl_f, ↓ez_t, ↓ez_f, ↓il_t, ↓il_f, il_t, il_f, ez_t, ez_f, if_true, if_false, upS_h, upS_o, upS_i, Int.reduceAdd, Int.reduceSub, Int.reduceMul, Int.reduceNeg, wI_id, h.1]
  · rw [if_neg (show ¬ (0 ≤ a ∧ a < α 0 0) by omega)]
    simp (disch := omega) only [↓rdA_t, ↓wrA_t, ↓ixA_t, ↓wrF_d, ↓bd2_s, ↓bd1_s, ↓bnd_d, ↓iww_t, ↓iww_f, ↓iwl_t, ↓iwl_f, ↓ilw_t, ↓ilw_f, ↓eww_t, ↓eww_f, ↓ewl_t, ↓ewl_f, ↓ez_t, ↓ez_f, ↓il_t, ↓il_f, il_t, il_f, ez_t, ez_f, if_true, if_false, upS_h, upS_o, upS_i, Int.reduceAdd, Int.reduceSub, Int.reduceMul, Int.reduceNeg, wI_id, h.1]
theorem m_isU {σ α : St} {a : Int} (h : mU σ α) (hw : wU α) (ha : inR a) : f_X10_isUnit σ a = if 0 ≤ a ∧ a < α 0 0 then 1 else 0 := by
  unfold inR at ha
  obtain ⟨w1, w2, w3⟩ := hw
  unfold f_X10_isUnit
  by_cases c : 0 ≤ a ∧ a < α 0 0
  · rw [if_pos c, h.1, in_t2 (by omega)]
  · rw [if_neg c, h.1, in_f2 (by omega)]
def rOf (α : St) (u a : Int) : Int := if 0 ≤ u ∧ u < α 0 0 then (if 0 ≤ a ∧ a ≤ 5 then α (1 + a) u else if a = 6 then nxS α u else -2) else -2
def aOf (α : St) (u a : Int) : St := if (0 ≤ u ∧ u < α 0 0) ∧ 0 ≤ a ∧ a ≤ 6 then α else aR α 3
theorem xc_of {σ α : St} {u a : Int} (h : IC σ α) (hw : WF α) (hu : inR u) (ha : inR a) : oC (f_X9_of σ u a) σ α (rOf α u a) (aOf α u a) := by
  have hu' := hu
  unfold inR at hu ha
  have hn := hw.1.2.1
  unfold f_X9_of rOf aOf
  rw [c_isU h.1 hw.1 hu']
  by_cases c : 0 ≤ u ∧ u < α 0 0
  · obtain ⟨e1, e2, e3, e4, e5, e6, e7⟩ := h.1.2.1 u c.1 c.2
    have e8 := c_foll h.1 hw.1 c.1 c.2
    by_cases c2 : 0 ≤ a ∧ a ≤ 6
    · have : a = 0 ∨ a = 1 ∨ a = 2 ∨ a = 3 ∨ a = 4 ∨ a = 5 ∨ a = 6 := by omega
      rw [if_pos (show (0 ≤ u ∧ u < α 0 0) ∧ 0 ≤ a ∧ a ≤ 6 from ⟨c, c2⟩)]
      rcases this with rfl | rfl | rfl | rfl | rfl | rfl | rfl <;> (simp (disch := omega) only [↓rdA_t, ↓wrA_t, ↓ixA_t, ↓wrF_d, ↓bd2_s, ↓bd1_s, ↓bnd_d, ↓iww_t, ↓iww_f, ↓iwl_t, ↓iwl_f, ↓ilw_t, ↓ilw_f, ↓eww_t, ↓eww_f, ↓ewl_t, ↓ewl_f, ↓ez_t, ↓ez_f, ↓il_t, ↓il_f, il_t, il_f, ez_t, ez_f, if_true, if_false, upS_h, upS_o, upS_i, Int.reduceAdd, Int.reduceSub, Int.reduceMul, Int.reduceNeg, wI_id, if_pos c]; exact ⟨σ, by simp [e1, e2, e3, e4, e5, e6, e8], h, fun _ _ => rfl⟩)
    · rw [if_neg (show ¬ ((0 ≤ u ∧ u < α 0 0) ∧ 0 ≤ a ∧ a ≤ 6) from fun z => c2 z.2)]
      simp (disch := omega) only [↓rdA_t, ↓wrA_t, ↓ixA_t, ↓wrF_d, ↓bd2_s, ↓bd1_s, ↓bnd_d, ↓iww_t, ↓iww_f, ↓iwl_t, ↓iwl_f, ↓ilw_t, ↓ilw_f, ↓eww_t, ↓eww_f, ↓ewl_t, ↓ewl_f, ↓ez_t, ↓ez_f, ↓il_t, ↓il_f, il_t, il_f, ez_t, ez_f, if_true, if_false, upS_h, upS_o, upS_i, Int.reduceAdd, Int.reduceSub, Int.reduceMul, Int.reduceNeg, wI_id, if_pos c]
      rw [if_neg (by omega)]
      exact oC_id (oC_bad h)
  · rw [if_neg (show ¬ ((0 ≤ u ∧ u < α 0 0) ∧ 0 ≤ a ∧ a ≤ 6) from fun z => c z.1)]
    simp (disch := omega) only [↓rdA_t, ↓wrA_t, ↓ixA_t, ↓wrF_d, ↓bd2_s, ↓bd1_s, ↓bnd_d, ↓iww_t, ↓iww_f, ↓iwl_t, ↓iwl_f, ↓ilw_t, ↓ilw_f, ↓eww_t, ↓eww_f, ↓ewl_t, ↓ewl_f, ↓ez_t, ↓ez_f, ↓il_t, ↓il_f, il_t, il_f, ez_t, ez_f, if_true, if_false, upS_h, upS_o, upS_i, Int.reduceAdd, Int.reduceSub, Int.reduceMul, Int.reduceNeg, wI_id, if_neg c]
    exact oC_id (oC_bad h)
theorem xm_of {σ α : St} {u a : Int} (h : IM σ α) (hw : WF α) (hu : inR u) (ha : inR a) : oM (f_X10_of σ u a) σ α (rOf α u a) (aOf α u a) := by
  have hu' := hu
  unfold inR at hu ha
  have hn := hw.1.2.1
  unfold f_X10_of rOf aOf
  rw [m_isU h.1 hw.1 hu']
  by_cases c : 0 ≤ u ∧ u < α 0 0
  · by_cases c2 : 0 ≤ a ∧ a ≤ 6
    · rw [if_pos (show (0 ≤ u ∧ u < α 0 0) ∧ 0 ≤ a ∧ a ≤ 6 from ⟨c, c2⟩), if_pos c, if_pos c]
      by_cases c3 : a = 6
      · subst c3
        simp (disch := omega) only [↓rdA_t, ↓wrA_t, ↓ixA_t, ↓wrF_d, ↓bd2_s, ↓bd1_s, ↓bnd_d, ↓iww_t, ↓iww_f, ↓iwl_t, ↓iwl_f, ↓ilw_t, ↓ilw_f, ↓eww_t, ↓eww_f, ↓ewl_t, ↓ewl_f, ↓ez_t, ↓ez_f, ↓il_t, ↓il_f, il_t, il_f, ez_t, ez_f, if_true, if_false, upS_h, upS_o, upS_i, Int.reduceAdd, Int.reduceSub, Int.reduceMul, Int.reduceNeg, wI_id, in_t, m_next h.1 hw.1 c.1 c.2]
        rw [if_neg (by omega)]
        exact oM_ret _ h
      · simp (disch := omega) only [↓rdA_t, ↓wrA_t, ↓ixA_t, ↓wrF_d, ↓bd2_s, ↓bd1_s, ↓bnd_d, ↓iww_t, ↓iww_f, ↓iwl_t, ↓iwl_f, ↓ilw_t, ↓ilw_f, ↓eww_t, ↓eww_f, ↓ewl_t, ↓ewl_f, ↓ez_t, ↓ez_f, ↓il_t, ↓il_f, il_t, il_f, ez_t, ez_f, if_true, if_false, upS_h, upS_o, upS_i, Int.reduceAdd, Int.reduceSub, Int.reduceMul, Int.reduceNeg, wI_id, in_t, m_at h.1 hw.1 c.1 c.2 c2.1 (show a < 6 by omega), if_pos (show 0 ≤ a ∧ a ≤ 5 by omega)]
        exact oM_ret _ h
    · rw [if_neg (show ¬ ((0 ≤ u ∧ u < α 0 0) ∧ 0 ≤ a ∧ a ≤ 6) from fun z => c2 z.2), if_pos c, if_pos c, if_neg (show ¬ (0 ≤ a ∧ a ≤ 5) by omega)]
      simp (disch := omega) only [↓rdA_t, ↓wrA_t, ↓ixA_t, ↓wrF_d, ↓bd2_s, ↓bd1_s, ↓bnd_d, ↓iww_t, ↓iww_f, ↓iwl_t, ↓iwl_f, ↓ilw_t, ↓ilw_f, ↓eww_t, ↓eww_f, ↓ewl_t, ↓ewl_f, ↓ez_t, ↓ez_f, ↓il_t, ↓il_f, il_t, il_f, ez_t, ez_f, if_true, if_false, upS_h, upS_o, upS_i, Int.reduceAdd, Int.reduceSub, Int.reduceMul, Int.reduceNeg, wI_id, in_f]
      exact oM_id (oM_bad (-2) h)
  · rw [if_neg (show ¬ ((0 ≤ u ∧ u < α 0 0) ∧ 0 ≤ a ∧ a ≤ 6) from fun z => c z.1), if_neg c, if_neg c]
    simp (disch := omega) only [↓rdA_t, ↓wrA_t, ↓ixA_t, ↓wrF_d, ↓bd2_s, ↓bd1_s, ↓bnd_d, ↓iww_t, ↓iww_f, ↓iwl_t, ↓iwl_f, ↓ilw_t, ↓ilw_f, ↓eww_t, ↓eww_f, ↓ewl_t, ↓ewl_f, ↓ez_t, ↓ez_f, ↓il_t, ↓il_f, il_t, il_f, ez_t, ez_f, if_true, if_false, upS_h, upS_o, upS_i, Int.reduceAdd, Int.reduceSub, Int.reduceMul, Int.reduceNeg, wI_id]
    exact oM_id (oM_bad (-2) h)
theorem wf_of {α : St} {u a : Int} (hw : WF α) : WF (aOf α u a) := by
  unfold aOf
  by_cases c : (0 ≤ u ∧ u < α 0 0) ∧ 0 ≤ a ∧ a ≤ 6
  · rw [if_pos c]; exact hw
  · rw [if_neg c]; exact WF_aR 3 (by omega) hw
/-! ===== a unit more ===== -/
def aAdd (α : St) (s l r p d t : Int) : St := upS (upS (upS (upS (upS (upS (upS α 1 (α 0 0) s) 2 (α 0 0) l) 3 (α 0 0) r) 4 (α 0 0) p) 5 (α 0 0) d) 6 (α 0 0) t) 0 0 (α 0 0 + 1)
theorem aAdd_0 {α : St} {s l r p d t : Int} : aAdd α s l r p d t 0 0 = α 0 0 + 1 := by unfold aAdd; simp (disch := omega) only [upS_h, upS_o, upS_i, Int.reduceAdd, Int.reduceSub, Int.reduceMul, Int.reduceNeg]
theorem aAdd_n {α : St} {s l r p d t w : Int} (hw : 0 ≤ w ∧ w ≤ 5) : aAdd α s l r p d t (1 + w) (α 0 0) = if w = 0 then s else if w = 1 then l else if w = 2 then r else if w = 3 then p else if w = 4 then d else t := by
  have : w = 0 ∨ w = 1 ∨ w = 2 ∨ w = 3 ∨ w = 4 ∨ w = 5 := by omega
  unfold aAdd
  rcases this with rfl | rfl | rfl | rfl | rfl | rfl <;> (simp (disch := omega) only [upS_h, upS_o, upS_i, Int.reduceAdd, Int.reduceSub, Int.reduceMul, Int.reduceNeg]; simp)
theorem aAdd_o {α : St} {s l r p d t o v : Int} (ho : ¬ o = 0) (hv : ¬ v = α 0 0) : aAdd α s l r p d t o v = α o v := by
  unfold aAdd; simp (disch := omega) only [upS_h, upS_o, upS_i, Int.reduceAdd, Int.reduceSub, Int.reduceMul, Int.reduceNeg]
theorem aAdd_c {α : St} {s l r p d t o : Int} (ho : 7 ≤ o) : aAdd α s l r p d t o = α o := by
  unfold aAdd; simp (disch := omega) only [upS_of]
theorem aAdd_z {α : St} {s l r p d t i : Int} (hi : ¬ i = 0) : aAdd α s l r p d t 0 i = α 0 i := by
  unfold aAdd; simp (disch := omega) only [upS_h, upS_o, upS_i, Int.reduceAdd, Int.reduceSub, Int.reduceMul, Int.reduceNeg]
theorem wU_add {α : St} {s l r p d t : Int} (hw : wU α) (hn : α 0 0 < 40) (h1 : 0 ≤ s ∧ s ≤ 5) (h2 : 0 ≤ l ∧ l ≤ 6) (h3 : 0 ≤ r ∧ r ≤ 6) (h4 : 0 ≤ p ∧ p ≤ 9) (h5 : 1 ≤ d ∧ d ≤ 9) (h6 : 0 ≤ t ∧ t ≤ 3) : wU (aAdd α s l r p d t) := by
  obtain ⟨w1, w2, w3⟩ := hw
  refine ⟨by rw [aAdd_0]; omega, by rw [aAdd_0]; omega, fun u q1 q2 => ?_⟩
  rw [aAdd_0] at q2
  by_cases c : u = α 0 0
  · subst c
    have e := fun w hw => aAdd_n (α := α) (s := s) (l := l) (r := r) (p := p) (d := d) (t := t) (w := w) hw
    have e0 := e 0 (by omega); have e1 := e 1 (by omega); have e2 := e 2 (by omega); have e3 := e 3 (by omega); have e4 := e 4 (by omega); have e5 := e 5 (by omega)
    simp at e0 e1 e2 e3 e4 e5
    rw [e0, e1, e2, e3, e4, e5]
    exact ⟨h1, h2, h3, h4, h5, h6⟩
  · rw [aAdd_o (by omega) c, aAdd_o (by omega) c, aAdd_o (by omega) c, aAdd_o (by omega) c, aAdd_o (by omega) c, aAdd_o (by omega) c]
    exact w3 u q1 (by omega)
theorem mU_add {σ α : St} {s l r p d t : Int} (h : mU σ α) (hw : wU α) (hn : α 0 0 < 40) : ∃ τ, f_X10_lays σ s l r p d t = some (0, τ) ∧ mU τ (aAdd α s l r p d t) ∧ (∀ o, ¬ o = 118 → ¬ o = 119 → τ o = σ o) ∧ ∀ i, ¬ i = 1 → τ 118 i = σ 118 i := by
  obtain ⟨w1, w2, w3⟩ := hw
  unfold f_X10_lays
  simp (disch := omega) only [↓rdA_t, ↓wrA_t, ↓ixA_t, ↓wrF_d, ↓bd2_s, ↓bd1_s, ↓bnd_d, ↓iww_t, ↓iww_f, ↓iwl_t, ↓iwl_f, ↓ilw_t, ↓ilw_f, ↓eww_t, ↓eww_f, ↓ewl_t, ↓ewl_f, ↓ez_t, ↓ez_f, ↓il_t, ↓il_f, il_t, il_f, ez_t, ez_f, if_true, if_false, upS_h, upS_o, upS_i, Int.reduceAdd, Int.reduceSub, Int.reduceMul, Int.reduceNeg, wI_id, h.1]
  refine ⟨_, rfl, ⟨by rw [aAdd_0]; simp (disch := omega) only [upS_h, upS_o, upS_i, Int.reduceAdd, Int.reduceSub, Int.reduceMul, Int.reduceNeg, h.1], fun u w q1 q2 q3 q4 => ?_⟩, fun o p1 p2 => by simp (disch := omega) only [upS_of], fun i p1 => by simp (disch := omega) only [upS_h, upS_o, upS_i, Int.reduceAdd, Int.reduceSub, Int.reduceMul, Int.reduceNeg]⟩
  rw [aAdd_0] at q2
  by_cases c : u = α 0 0
  · subst c
    rw [aAdd_n (by omega)]
    have : w = 0 ∨ w = 1 ∨ w = 2 ∨ w = 3 ∨ w = 4 ∨ w = 5 := by omega
    rcases this with rfl | rfl | rfl | rfl | rfl | rfl <;> (simp (disch := omega) only [upS_h, upS_o, upS_i, Int.reduceAdd, Int.reduceSub, Int.reduceMul, Int.reduceNeg]; simp)
  · rw [aAdd_o (by omega) c]
    simp (disch := omega) only [upS_h, upS_o, upS_i, Int.reduceAdd, Int.reduceSub, Int.reduceMul, Int.reduceNeg, h.2 u w q1 (by omega) q3 q4]
theorem cU_add {σ α : St} {s l r p d t : Int} (h : cU σ α) (hw : wU α) (hn : α 0 0 < 40) (ht : 0 ≤ t ∧ t ≤ 3) : ∃ τ, f_X8_add σ s l r p d t = some (α 0 0, τ) ∧ cU τ (aAdd α s l r p d t) ∧ (∀ o, (o < 1 ∨ 9 < o) → τ o = σ o) := by
  have hL := h.2.2 t ht.1 (by omega)
  obtain ⟨w1, w2, w3⟩ := hw
  have hs := h.1
  unfold f_X8_add f_X9_isTake jn_X8_add_121
  have e6 : ∀ v, aAdd α s l r p d t 6 v = if v = α 0 0 then t else α 6 v := by
    intro v
    by_cases c : v = α 0 0
    · subst c
      have e := aAdd_n (α := α) (s := s) (l := l) (r := r) (p := p) (d := d) (t := t) (w := 5) (by omega)
      simp at e
      rw [if_pos rfl]; exact e
    · rw [if_neg c, aAdd_o (by omega) c]
  have key : ∀ τ : St, (∀ o, (o < 1 ∨ 9 < o) → τ o = σ o) → τ 1 8 = α 0 0 + 1 → (∀ o, 2 ≤ o → o ≤ 7 → ∀ u, 0 ≤ u → u < α 0 0 → τ o u = σ o u) → (τ 2 (α 0 0) = s ∧ τ 3 (α 0 0) = l ∧ τ 4 (α 0 0) = r ∧ τ 5 (α 0 0) = p ∧ τ 6 (α 0 0) = d ∧ τ 7 (α 0 0) = t) → τ 8 (α 0 0) = -1 → (∀ u, 0 ≤ u → u < α 0 0 → τ 8 u = if u = σ 9 t then α 0 0 else σ 8 u) → (∀ q, τ 9 q = if q = t then α 0 0 else σ 9 q) → cU τ (aAdd α s l r p d t) := by
    intro τ _ k1 k2 k3 k4 k5 k6
    refine ⟨by rw [aAdd_0]; exact k1, fun u q1 q2 => ?_, fun q q1 q2 => ?_⟩
    · rw [aAdd_0] at q2
      by_cases c : u = α 0 0
      · subst c
        have e := fun w hw => aAdd_n (α := α) (s := s) (l := l) (r := r) (p := p) (d := d) (t := t) (w := w) hw
        have e0 := e 0 (by omega); have e1 := e 1 (by omega); have e2 := e 2 (by omega); have e3 := e 3 (by omega); have e4 := e 4 (by omega); have e5 := e 5 (by omega)
        simp at e0 e1 e2 e3 e4 e5
        rw [e0, e1, e2, e3, e4, e5]
        refine ⟨k3.1, k3.2.1, k3.2.2.1, k3.2.2.2.1, k3.2.2.2.2.1, k3.2.2.2.2.2, Or.inl ⟨k4, fun v v1 v2 => ?_⟩⟩
        rw [aAdd_0] at v2
        omega
      · have hu : u < α 0 0 := by omega
        obtain ⟨a1, a2, a3, a4, a5, a6, a7⟩ := h.2.1 u q1 hu
        rw [aAdd_o (by omega) c, aAdd_o (by omega) c, aAdd_o (by omega) c, aAdd_o (by omega) c, aAdd_o (by omega) c, aAdd_o (by omega) c]
        rw [k2 2 (by omega) (by omega) u q1 hu, k2 3 (by omega) (by omega) u q1 hu, k2 4 (by omega) (by omega) u q1 hu, k2 5 (by omega) (by omega) u q1 hu, k2 6 (by omega) (by omega) u q1 hu, k2 7 (by omega) (by omega) u q1 hu, k5 u q1 hu]
        refine ⟨a1, a2, a3, a4, a5, a6, ?_⟩
        by_cases c2 : u = σ 9 t
        · rw [if_pos c2]
          rcases hL with ⟨b1, b2⟩ | ⟨b1, b2, b3, b4⟩
          · omega
          · right
            rw [aAdd_0, e6, e6, if_pos rfl, if_neg c]
            rw [← c2] at b3 b4
            refine ⟨hu, by omega, b3.symm, fun v v1 v2 => ?_⟩
            rw [e6, if_neg (by omega), b3]
            exact b4 v v1 v2
        · rw [if_neg c2]
          rcases a7 with ⟨b1, b2⟩ | ⟨b1, b2, b3, b4⟩
          · left
            refine ⟨b1, fun v v1 v2 => ?_⟩
            rw [aAdd_0] at v2
            rw [e6, e6, if_neg c]
            by_cases c3 : v = α 0 0
            · rw [if_pos c3]
              intro c4
              rcases hL with ⟨d1, d2⟩ | ⟨d1, d2, d3, d4⟩
              · exact d2 u q1 hu c4.symm
              · rcases Int.lt_trichotomy u (σ 9 t) with x | x | x
                · exact b2 (σ 9 t) x d2 (d3.trans c4)
                · exact c2 x
                · exact d4 u x hu c4.symm
            · rw [if_neg c3]
              exact b2 v v1 (by omega)
          · right
            rw [aAdd_0, e6, e6, if_neg c, if_neg (by omega)]
            exact ⟨b1, by omega, b3, fun v v1 v2 => by rw [e6, if_neg (by omega)]; exact b4 v v1 v2⟩
    · rw [k6]
      by_cases c : q = t
      · rw [if_pos c]
        right
        refine ⟨w1, by rw [aAdd_0]; omega, by rw [e6, if_pos rfl, c], fun v v1 v2 => ?_⟩
        rw [aAdd_0] at v2
        omega
      · rw [if_neg c]
        rcases h.2.2 q q1 q2 with ⟨d1, d2⟩ | ⟨d1, d2, d3, d4⟩
        · left
          refine ⟨d1, fun v v1 v2 => ?_⟩
          rw [aAdd_0] at v2
          rw [e6]
          by_cases c3 : v = α 0 0
          · rw [if_pos c3]; exact fun z => c z.symm
          · rw [if_neg c3]; exact d2 v v1 (by omega)
        · right
          refine ⟨d1, by rw [aAdd_0]; omega, by rw [e6, if_neg (by omega)]; exact d3, fun v v1 v2 => ?_⟩
          rw [aAdd_0] at v2
          rw [e6]
          by_cases c3 : v = α 0 0
          · rw [if_pos c3]; exact fun z => c z.symm
          · rw [if_neg c3]; exact d4 v v1 (by omega)
  by_cases cn : σ 9 t < 0
  · have cn1 : σ 9 t = -1 := by rcases hL with ⟨b1, b2⟩ | ⟨b1, b2, b3, b4⟩ <;> omega
    simp (disch := omega) only [↓rdA_t, ↓wrA_t, ↓ixA_t, ↓wrF_d, ↓bd2_s, ↓bd1_s, ↓bnd_d, ↓iww_t, ↓iww_f, ↓iwl_t, ↓iwl_f, ↓ilw_t, ↓ilw_f, ↓eww_t, ↓eww_f, ↓ewl_t, ↓ewl_f, ↓ez_t, ↓ez_f, ↓il_t, ↓il_f, il_t, il_f, ez_t, ez_f, if_true, if_false, upS_h, upS_o, upS_i, Int.reduceAdd, Int.reduceSub, Int.reduceMul, Int.reduceNeg, wI_id, h.1, within_t]
    refine ⟨_, rfl, key _ (fun o ho => by simp (disch := omega) only [upS_of]) (by simp (disch := omega) only [upS_h, upS_o, upS_i, Int.reduceAdd, Int.reduceSub, Int.reduceMul, Int.reduceNeg, h.1]) (fun o o1 o2 u u1 u2 => by simp (disch := omega) only [upS_h, upS_o, upS_i, Int.reduceAdd, Int.reduceSub, Int.reduceMul, Int.reduceNeg]) ⟨by simp (disch := omega) only [upS_h, upS_o, upS_i, Int.reduceAdd, Int.reduceSub, Int.reduceMul, Int.reduceNeg], by simp (disch := omega) only [upS_h, upS_o, upS_i, Int.reduceAdd, Int.reduceSub, Int.reduceMul, Int.reduceNeg], by simp (disch := omega) only [upS_h, upS_o, upS_i, Int.reduceAdd, Int.reduceSub, Int.reduceMul, Int.reduceNeg], by simp (disch := omega) only [upS_h, upS_o, upS_i, Int.reduceAdd, Int.reduceSub, Int.reduceMul, Int.reduceNeg], by simp (disch := omega) only [upS_h, upS_o, upS_i, Int.reduceAdd, Int.reduceSub, Int.reduceMul, Int.reduceNeg], by simp (disch := omega) only [upS_h, upS_o, upS_i, Int.reduceAdd, Int.reduceSub, Int.reduceMul, Int.reduceNeg]⟩ (by simp (disch := omega) only [upS_h, upS_o, upS_i, Int.reduceAdd, Int.reduceSub, Int.reduceMul, Int.reduceNeg]) (fun u u1 u2 => by rw [if_neg (by omega)]; simp (disch := omega) only [upS_h, upS_o, upS_i, Int.reduceAdd, Int.reduceSub, Int.reduceMul, Int.reduceNeg]) (fun q => ?_), fun o ho => by simp (disch := omega) only [upS_of]⟩
    by_cases c : q = t
    · rw [if_pos c]; simp (disch := omega) only [upS_h, upS_o, upS_i, Int.reduceAdd, Int.reduceSub, Int.reduceMul, Int.reduceNeg]
    · rw [if_neg c]; simp (disch := omega) only [upS_h, upS_o, upS_i, Int.reduceAdd, Int.reduceSub, Int.reduceMul, Int.reduceNeg]
  · have cn1 : 0 ≤ σ 9 t ∧ σ 9 t < α 0 0 := by rcases hL with ⟨b1, b2⟩ | ⟨b1, b2, b3, b4⟩ <;> omega
    simp (disch := omega) only [↓rdA_t, ↓wrA_t, ↓ixA_t, ↓wrF_d, ↓bd2_s, ↓bd1_s, ↓bnd_d, ↓iww_t, ↓iww_f, ↓iwl_t, ↓iwl_f, ↓ilw_t, ↓ilw_f, ↓eww_t, ↓eww_f, ↓ewl_t, ↓ewl_f, ↓ez_t, ↓ez_f, ↓il_t, ↓il_f, il_t, il_f, ez_t, ez_f, if_true, if_false, upS_h, upS_o, upS_i, Int.reduceAdd, Int.reduceSub, Int.reduceMul, Int.reduceNeg, wI_id, h.1, within_t]
    refine ⟨_, rfl, key _ (fun o ho => by simp (disch := omega) only [upS_of]) (by simp (disch := omega) only [upS_h, upS_o, upS_i, Int.reduceAdd, Int.reduceSub, Int.reduceMul, Int.reduceNeg, h.1]) (fun o o1 o2 u u1 u2 => by simp (disch := omega) only [upS_h, upS_o, upS_i, Int.reduceAdd, Int.reduceSub, Int.reduceMul, Int.reduceNeg]) ⟨by simp (disch := omega) only [upS_h, upS_o, upS_i, Int.reduceAdd, Int.reduceSub, Int.reduceMul, Int.reduceNeg], by simp (disch := omega) only [upS_h, upS_o, upS_i, Int.reduceAdd, Int.reduceSub, Int.reduceMul, Int.reduceNeg], by simp (disch := omega) only [upS_h, upS_o, upS_i, Int.reduceAdd, Int.reduceSub, Int.reduceMul, Int.reduceNeg], by simp (disch := omega) only [upS_h, upS_o, upS_i, Int.reduceAdd, Int.reduceSub, Int.reduceMul, Int.reduceNeg], by simp (disch := omega) only [upS_h, upS_o, upS_i, Int.reduceAdd, Int.reduceSub, Int.reduceMul, Int.reduceNeg], by simp (disch := omega) only [upS_h, upS_o, upS_i, Int.reduceAdd, Int.reduceSub, Int.reduceMul, Int.reduceNeg]⟩ (by simp (disch := omega) only [upS_h, upS_o, upS_i, Int.reduceAdd, Int.reduceSub, Int.reduceMul, Int.reduceNeg]) (fun u u1 u2 => ?_) (fun q => ?_), fun o ho => by simp (disch := omega) only [upS_of]⟩
    · by_cases c : u = σ 9 t
      · rw [if_pos c]; simp (disch := omega) only [upS_h, upS_o, upS_i, Int.reduceAdd, Int.reduceSub, Int.reduceMul, Int.reduceNeg]
      · rw [if_neg c]; simp (disch := omega) only [upS_h, upS_o, upS_i, Int.reduceAdd, Int.reduceSub, Int.reduceMul, Int.reduceNeg]
    · by_cases c : q = t
      · rw [if_pos c]; simp (disch := omega) only [upS_h, upS_o, upS_i, Int.reduceAdd, Int.reduceSub, Int.reduceMul, Int.reduceNeg]
      · rw [if_neg c]; simp (disch := omega) only [upS_h, upS_o, upS_i, Int.reduceAdd, Int.reduceSub, Int.reduceMul, Int.reduceNeg]
end
section
/-! ===== long division ===== -/
theorem divL_e {x y : Int} (h : 0 ≤ x ∧ x ≤ 9223372036854775807 ∧ 0 < y ∧ y ≤ 9223372036854775807) : divL x y = x / y := by
  have q1 : 0 ≤ x / y := Int.ediv_nonneg h.1 (by omega)
  have q2 : x / y ≤ x := Int.ediv_le_self y h.1
  unfold divL lV
  rw [Int64.toInt_div, Int64.toInt_ofInt_of_le (by omega) (by omega), Int64.toInt_ofInt_of_le (by omega) (by omega), Int.tdiv_eq_ediv_of_nonneg h.1]
  rw [Int.bmod_def]
  omega
theorem remL_e {x y : Int} (h : 0 ≤ x ∧ x ≤ 9223372036854775807 ∧ 0 < y ∧ y ≤ 9223372036854775807) : remL x y = x % y := by
  have q1 : 0 ≤ x / y := Int.ediv_nonneg h.1 (by omega)
  have q2 : x / y ≤ x := Int.ediv_le_self y h.1
  have e := divL_e h
  unfold divL at e
  have d := Int.emod_nonneg x (show y ≠ 0 by omega)
  have d3 := Int.emod_def x y
  have d4 : 0 ≤ y * (x / y) := Int.mul_nonneg (by omega) q1
  have d2 : x % y ≤ x := by omega
  unfold remL
  have e2 : lV x / lV y = Int64.ofInt (x / y) := by
    rw [← Int64.ofInt_toInt (lV x / lV y), e]
  rw [e2]
  show (Int64.ofInt x - Int64.ofInt (x / y) * Int64.ofInt y).toInt = x % y
  rw [← Int64.ofInt_mul, ← Int64.ofInt_sub, Int.mul_comm (x / y) y, ← d3]
  exact Int64.toInt_ofInt_of_le (by omega) (by omega)
/-! ===== unit ===== -/
abbrev okUnit (s l r p d t : Int) : Prop := (0 ≤ s ∧ s ≤ 5) ∧ (0 ≤ l ∧ l ≤ 6) ∧ (0 ≤ r ∧ r ≤ 6) ∧ (0 ≤ p ∧ p ≤ 9) ∧ (1 ≤ d ∧ d ≤ 9) ∧ (0 ≤ t ∧ t ≤ 3)
def rUnit (α : St) (s l r p d t : Int) : Int := if okUnit s l r p d t then (if α 0 0 < 40 then α 0 0 else -4) else -2
def aUnit (α : St) (s l r p d t : Int) : St := if okUnit s l r p d t then (if α 0 0 < 40 then aAdd α s l r p d t else aR α 5) else aR α 3
theorem xc_unit {σ α : St} {s l r p d t : Int} (h : IC σ α) (hw : WF α) (hs : inR s) (hl : inR l) (hr : inR r) (hp : inR p) (hd : inR d) (ht : inR t) : oC (f_X9_unit σ s l r p d t) σ α (rUnit α s l r p d t) (aUnit α s l r p d t) := by
  unfold inR at hs hl hr hp hd ht
  have hn := hw.1.1
  have hm := hw.1.2.1
  have h8 := h.1.1
  unfold f_X9_unit f_X9_isSound f_X9_isTake rUnit aUnit
  by_cases c : okUnit s l r p d t
  · rw [if_pos c, if_pos c]
    have c' := c
    unfold okUnit at c'
    by_cases cn : α 0 0 < 40
    · obtain ⟨τ, e1, e2, e3⟩ := cU_add (s := s) (l := l) (r := r) (p := p) (d := d) (t := t) h.1 hw.1 cn c'.2.2.2.2.2
      rw [if_pos cn, if_pos cn]
      simp (disch := omega) only [↓rdA_t, ↓wrA_t, ↓ixA_t, ↓wrF_d, ↓bd2_s, ↓bd1_s, ↓bnd_d, ↓iww_t, ↓iww_f, ↓iwl_t, ↓iwl_f, ↓ilw_t, ↓ilw_f, ↓eww_t, ↓eww_f, ↓ewl_t, ↓ewl_f, ↓ez_t, ↓ez_f, ↓il_t, ↓il_f, il_t, il_f, ez_t, ez_f, if_true, if_false, upS_h, upS_o, upS_i, Int.reduceAdd, Int.reduceSub, Int.reduceMul, Int.reduceNeg, wI_id, within_t, e1]
      exact ⟨τ, rfl, IC_chU e3 (fun i hi => aAdd_z hi) (fun o ho => aAdd_c ho) h e2, fun o ho => e3 o (by omega)⟩
    · rw [if_neg cn, if_neg cn]
      simp (disch := omega) only [↓rdA_t, ↓wrA_t, ↓ixA_t, ↓wrF_d, ↓bd2_s, ↓bd1_s, ↓bnd_d, ↓iww_t, ↓iww_f, ↓iwl_t, ↓iwl_f, ↓ilw_t, ↓ilw_f, ↓eww_t, ↓eww_f, ↓ewl_t, ↓ewl_f, ↓ez_t, ↓ez_f, ↓il_t, ↓il_f, il_t, il_f, ez_t, ez_f, if_true, if_false, upS_h, upS_o, upS_i, Int.reduceAdd, Int.reduceSub, Int.reduceMul, Int.reduceNeg, wI_id, within_t]
      exact oC_id (oC_full h)
  · rw [if_neg c, if_neg c]
    have c' := c
    unfold okUnit at c'
    by_cases c1 : 0 ≤ s ∧ s ≤ 5
    · by_cases c2 : 0 ≤ l ∧ l ≤ 6
      · by_cases c3 : 0 ≤ r ∧ r ≤ 6
        · by_cases c4 : 0 ≤ p ∧ p ≤ 9
          · by_cases c5 : 1 ≤ d ∧ d ≤ 9
            · by_cases c6 : 0 ≤ t ∧ t ≤ 3
              · exact absurd ⟨c1, c2, c3, c4, c5, c6⟩ c
              · clear c'
                simp (disch := omega) only [↓rdA_t, ↓wrA_t, ↓ixA_t, ↓wrF_d, ↓bd2_s, ↓bd1_s, ↓bnd_d, ↓iww_t, ↓iww_f, ↓iwl_t, ↓iwl_f, ↓ilw_t, ↓ilw_f, ↓eww_t, ↓eww_f, ↓ewl_t, ↓ewl_f, ↓ez_t, ↓ez_f, ↓il_t, ↓il_f, il_t, il_f, ez_t, ez_f, if_true, if_false, upS_h, upS_o, upS_i, Int.reduceAdd, Int.reduceSub, Int.reduceMul, Int.reduceNeg, wI_id, within_t, within_f]
                exact oC_id (oC_bad h)
            · clear c'
              simp (disch := omega) only [↓rdA_t, ↓wrA_t, ↓ixA_t, ↓wrF_d, ↓bd2_s, ↓bd1_s, ↓bnd_d, ↓iww_t, ↓iww_f, ↓iwl_t, ↓iwl_f, ↓ilw_t, ↓ilw_f, ↓eww_t, ↓eww_f, ↓ewl_t, ↓ewl_f, ↓ez_t, ↓ez_f, ↓il_t, ↓il_f, il_t, il_f, ez_t, ez_f, if_true, if_false, upS_h, upS_o, upS_i, Int.reduceAdd, Int.reduceSub, Int.reduceMul, Int.reduceNeg, wI_id, within_t, within_f]
              exact oC_id (oC_bad h)
          · clear c'
            simp (disch := omega) only [↓rdA_t, ↓wrA_t, ↓ixA_t, ↓wrF_d, ↓bd2_s, ↓bd1_s, ↓bnd_d, ↓iww_t, ↓iww_f, ↓iwl_t, ↓iwl_f, ↓ilw_t, ↓ilw_f, ↓eww_t, ↓eww_f, ↓ewl_t, ↓ewl_f, ↓ez_t, ↓ez_f, ↓il_t, ↓il_f, il_t, il_f, ez_t, ez_f, if_true, if_false, upS_h, upS_o, upS_i, Int.reduceAdd, Int.reduceSub, Int.reduceMul, Int.reduceNeg, wI_id, within_t, within_f]
            exact oC_id (oC_bad h)
        · clear c'
          simp (disch := omega) only [↓rdA_t, ↓wrA_t, ↓ixA_t, ↓wrF_d, ↓bd2_s, ↓bd1_s, ↓bnd_d, ↓iww_t, ↓iww_f, ↓iwl_t, ↓iwl_f, ↓ilw_t, ↓ilw_f, ↓eww_t, ↓eww_f, ↓ewl_t, ↓ewl_f, ↓ez_t, ↓ez_f, ↓il_t, ↓il_f, il_t, il_f, ez_t, ez_f, if_true, if_false, upS_h, upS_o, upS_i, Int.reduceAdd, Int.reduceSub, Int.reduceMul, Int.reduceNeg, wI_id, within_t, within_f]
          exact oC_id (oC_bad h)
      · clear c'
        simp (disch := omega) only [↓rdA_t, ↓wrA_t, ↓ixA_t, ↓wrF_d, ↓bd2_s, ↓bd1_s, ↓bnd_d, ↓iww_t, ↓iww_f, ↓iwl_t, ↓iwl_f, ↓ilw_t, ↓ilw_f, ↓eww_t, ↓eww_f, ↓ewl_t, ↓ewl_f, ↓ez_t, ↓ez_f, ↓il_t, ↓il_f, il_t, il_f, ez_t, ez_f, if_true, if_false, upS_h, upS_o, upS_i, Int.reduceAdd, Int.reduceSub, Int.reduceMul, Int.reduceNeg, wI_id, within_t, within_f]
        exact oC_id (oC_bad h)
    · clear c'
      simp (disch := omega) only [↓rdA_t, ↓wrA_t, ↓ixA_t, ↓wrF_d, ↓bd2_s, ↓bd1_s, ↓bnd_d, ↓iww_t, ↓iww_f, ↓iwl_t, ↓iwl_f, ↓ilw_t, ↓ilw_f, ↓eww_t, ↓eww_f, ↓ewl_t, ↓ewl_f, ↓ez_t, ↓ez_f, ↓il_t, ↓il_f, il_t, il_f, ez_t, ez_f, if_true, if_false, upS_h, upS_o, upS_i, Int.reduceAdd, Int.reduceSub, Int.reduceMul, Int.reduceNeg, wI_id, within_t, within_f]
      exact oC_id (oC_bad h)
theorem IM_add {σ τ α : St} {s l r p d t : Int} (h : IM σ α) (e2 : mU τ (aAdd α s l r p d t)) (e3 : ∀ o, ¬ o = 118 → ¬ o = 119 → τ o = σ o) (e4 : ∀ i, ¬ i = 1 → τ 118 i = σ 118 i) : IM τ (aAdd α s l r p d t) :=
  IM_chU (fun i _ hi => e4 i hi) (fun o o1 _ => e3 o (by omega) (by omega)) (fun i hi => aAdd_z hi) (fun o ho => aAdd_c ho) h e2
theorem xm_unit {σ α : St} {s l r p d t : Int} (h : IM σ α) (hw : WF α) (hs : inR s) (hl : inR l) (hr : inR r) (hp : inR p) (hd : inR d) (ht : inR t) : oM (f_X10_unit σ s l r p d t) σ α (rUnit α s l r p d t) (aUnit α s l r p d t) := by
  unfold inR at hs hl hr hp hd ht
  have hn := hw.1.1
  have hm := hw.1.2.1
  have h8 := h.1.1
  unfold f_X10_unit f_X10_isSound rUnit aUnit
  by_cases c : okUnit s l r p d t
  · rw [if_pos c, if_pos c]
    have c' := c
    unfold okUnit at c'
    by_cases cn : α 0 0 < 40
    · obtain ⟨τ, e1, e2, e3, e4⟩ := mU_add (s := s) (l := l) (r := r) (p := p) (d := d) (t := t) h.1 hw.1 cn
      rw [if_pos cn, if_pos cn]
      simp (disch := omega) only [↓rdA_t, ↓wrA_t, ↓ixA_t, ↓wrF_d, ↓bd2_s, ↓bd1_s, ↓bnd_d, ↓iww_t, ↓iww_f, ↓iwl_t, ↓iwl_f, ↓ilw_t, ↓ilw_f, ↓eww_t, ↓eww_f, ↓ewl_t, ↓ewl_f, ↓ez_t, ↓ez_f, ↓il_t, ↓il_f, il_t, il_f, ez_t, ez_f, if_true, if_false, upS_h, upS_o, upS_i, Int.reduceAdd, Int.reduceSub, Int.reduceMul, Int.reduceNeg, wI_id, in_t, e1]
      refine ⟨τ, ?_, IM_add h e2 e3 e4, fun o ho => e3 o (by omega) (by omega)⟩
      rw [e2.1, aAdd_0]; congr 2; omega
    · rw [if_neg cn, if_neg cn]
      simp (disch := omega) only [↓rdA_t, ↓wrA_t, ↓ixA_t, ↓wrF_d, ↓bd2_s, ↓bd1_s, ↓bnd_d, ↓iww_t, ↓iww_f, ↓iwl_t, ↓iwl_f, ↓ilw_t, ↓ilw_f, ↓eww_t, ↓eww_f, ↓ewl_t, ↓ewl_f, ↓ez_t, ↓ez_f, ↓il_t, ↓il_f, il_t, il_f, ez_t, ez_f, if_true, if_false, upS_h, upS_o, upS_i, Int.reduceAdd, Int.reduceSub, Int.reduceMul, Int.reduceNeg, wI_id, in_t]
      exact oM_id (oM_full h)
  · rw [if_neg c, if_neg c]
    have c' := c
    unfold okUnit at c'
    by_cases c1 : 0 ≤ s ∧ s ≤ 5
    · by_cases c2 : 0 ≤ l ∧ l ≤ 6
      · by_cases c3 : 0 ≤ r ∧ r ≤ 6
        · by_cases c4 : 0 ≤ p ∧ p ≤ 9
          · by_cases c5 : 1 ≤ d ∧ d ≤ 9
            · by_cases c6 : 0 ≤ t ∧ t ≤ 3
              · exact absurd ⟨c1, c2, c3, c4, c5, c6⟩ c
              · clear c'
                simp (disch := omega) only [↓rdA_t, ↓wrA_t, ↓ixA_t, ↓wrF_d, ↓bd2_s, ↓bd1_s, ↓bnd_d, ↓iww_t, ↓iww_f, ↓iwl_t, ↓iwl_f, ↓ilw_t, ↓ilw_f, ↓eww_t, ↓eww_f, ↓ewl_t, ↓ewl_f, ↓ez_t, ↓ez_f, ↓il_t, ↓il_f, il_t, il_f, ez_t, ez_f, if_true, if_false, upS_h, upS_o, upS_i, Int.reduceAdd, Int.reduceSub, Int.reduceMul, Int.reduceNeg, wI_id, in_t, in_f]
                exact oM_id (oM_bad (-2) h)
            · clear c'
              simp (disch := omega) only [↓rdA_t, ↓wrA_t, ↓ixA_t, ↓wrF_d, ↓bd2_s, ↓bd1_s, ↓bnd_d, ↓iww_t, ↓iww_f, ↓iwl_t, ↓iwl_f, ↓ilw_t, ↓ilw_f, ↓eww_t, ↓eww_f, ↓ewl_t, ↓ewl_f, ↓ez_t, ↓ez_f, ↓il_t, ↓il_f, il_t, il_f, ez_t, ez_f, if_true, if_false, upS_h, upS_o, upS_i, Int.reduceAdd, Int.reduceSub, Int.reduceMul, Int.reduceNeg, wI_id, in_t, in_f]
              exact oM_id (oM_bad (-2) h)
          · clear c'
            simp (disch := omega) only [↓rdA_t, ↓wrA_t, ↓ixA_t, ↓wrF_d, ↓bd2_s, ↓bd1_s, ↓bnd_d, ↓iww_t, ↓iww_f, ↓iwl_t, ↓iwl_f, ↓ilw_t, ↓ilw_f, ↓eww_t, ↓eww_f, ↓ewl_t, ↓ewl_f, ↓ez_t, ↓ez_f, ↓il_t, ↓il_f, il_t, il_f, ez_t, ez_f, if_true, if_false, upS_h, upS_o, upS_i, Int.reduceAdd, Int.reduceSub, Int.reduceMul, Int.reduceNeg, wI_id, in_t, in_f]
            exact oM_id (oM_bad (-2) h)
        · clear c'
          simp (disch := omega) only [↓rdA_t, ↓wrA_t, ↓ixA_t, ↓wrF_d, ↓bd2_s, ↓bd1_s, ↓bnd_d, ↓iww_t, ↓iww_f, ↓iwl_t, ↓iwl_f, ↓ilw_t, ↓ilw_f, ↓eww_t, ↓eww_f, ↓ewl_t, ↓ewl_f, ↓ez_t, ↓ez_f, ↓il_t, ↓il_f, il_t, il_f, ez_t, ez_f, if_true, if_false, upS_h, upS_o, upS_i, Int.reduceAdd, Int.reduceSub, Int.reduceMul, Int.reduceNeg, wI_id, in_t, in_f]
          exact oM_id (oM_bad (-2) h)
      · clear c'
        simp (disch := omega) only [↓rdA_t, ↓wrA_t, ↓ixA_t, ↓wrF_d, ↓bd2_s, ↓bd1_s, ↓bnd_d, ↓iww_t, ↓iww_f, ↓iwl_t, ↓iwl_f, ↓ilw_t, ↓ilw_f, ↓eww_t, ↓eww_f, ↓ewl_t, ↓ewl_f, ↓ez_t, ↓ez_f, ↓il_t, ↓il_f, il_t, il_f, ez_t, ez_f, if_true, if_false, upS_h, upS_o, upS_i, Int.reduceAdd, Int.reduceSub, Int.reduceMul, Int.reduceNeg, wI_id, in_t, in_f]
        exact oM_id (oM_bad (-2) h)
    · clear c'
      simp (disch := omega) only [↓rdA_t, ↓wrA_t, ↓ixA_t, ↓wrF_d, ↓bd2_s, ↓bd1_s, ↓bnd_d, ↓iww_t, ↓iww_f, ↓iwl_t, ↓iwl_f, ↓ilw_t, ↓ilw_f, ↓eww_t, ↓eww_f, ↓ewl_t, ↓ewl_f, ↓ez_t, ↓ez_f, ↓il_t, ↓il_f, il_t, il_f, ez_t, ez_f, if_true, if_false, upS_h, upS_o, upS_i, Int.reduceAdd, Int.reduceSub, Int.reduceMul, Int.reduceNeg, wI_id, in_t, in_f]
      exact oM_id (oM_bad (-2) h)
theorem wf_add {α : St} {s l r p d t : Int} (hw : WF α) (hn : α 0 0 < 40) (c : okUnit s l r p d t) : WF (aAdd α s l r p d t) :=
  WF_chU (fun i hi => aAdd_z hi) (fun o ho => aAdd_c ho) hw (wU_add hw.1 hn c.1 c.2.1 c.2.2.1 c.2.2.2.1 c.2.2.2.2.1 c.2.2.2.2.2)
theorem wf_unit {α : St} {s l r p d t : Int} (hw : WF α) : WF (aUnit α s l r p d t) := by
  unfold aUnit
  by_cases c : okUnit s l r p d t
  · rw [if_pos c]
    by_cases cn : α 0 0 < 40
    · rw [if_pos cn]; exact wf_add hw cn c
    · rw [if_neg cn]; exact WF_aR 5 (by omega) hw
  · rw [if_neg c]; exact WF_aR 3 (by omega) hw
/-! ===== records ===== -/
def gN (x : Int) : Int := (x * 1103515245 + 12345) % 2147483648
def gS (y : Int) : Int := y / 65536 % 6
def gP (y : Int) : Int := y / 4096 % 10
def gD (y : Int) : Int := y / 1024 % 9 + 1
theorem gN_e {x : Int} (h : 0 ≤ x ∧ x < 2147483648) : remL ((x * 1103515245) + 12345) 2147483648 = gN x := remL_e (by omega)
theorem gN_r (x : Int) : 0 ≤ gN x ∧ gN x < 2147483648 := by unfold gN; omega
theorem gS_e {y : Int} (h : 0 ≤ y ∧ y < 2147483648) : remL (divL y 65536) 6 = gS y := by rw [divL_e (by omega), remL_e (by omega)]; rfl
theorem gP_e {y : Int} (h : 0 ≤ y ∧ y < 2147483648) : remL (divL y 4096) 10 = gP y := by rw [divL_e (by omega), remL_e (by omega)]; rfl
theorem gD_e {y : Int} (h : 0 ≤ y ∧ y < 2147483648) : remL (divL y 1024) 9 + 1 = gD y := by rw [divL_e (by omega), remL_e (by omega)]; rfl
theorem gS_r (y : Int) : 0 ≤ gS y ∧ gS y ≤ 5 := by unfold gS; omega
theorem gP_r (y : Int) : 0 ≤ gP y ∧ gP y ≤ 9 := by unfold gP; omega
theorem gD_r (y : Int) : 1 ≤ gD y ∧ gD y ≤ 9 := by unfold gD; omega
def rcA (t : Int) : Nat → St → Int → Int → St
  | 0, α, _, _ => α
  | m + 1, α, x, l => rcA t m (aAdd α (gS (gN x)) l 6 (gP (gN x)) (gD (gN x)) t) (gN x) (gS (gN x))
theorem rcA_p (t : Int) (ht : 0 ≤ t ∧ t ≤ 3) : ∀ (m : Nat) (α : St) (x l : Int), wU α → α 0 0 + m ≤ 40 → 0 ≤ l ∧ l ≤ 6 → wU (rcA t m α x l) ∧ rcA t m α x l 0 0 = α 0 0 + m ∧ (∀ i, ¬ i = 0 → rcA t m α x l 0 i = α 0 i) ∧ ∀ o, 7 ≤ o → rcA t m α x l o = α o := by
  intro m
  induction m with
  | zero => intro α x l h1 h2 h3; exact ⟨h1, by simp [rcA], fun _ _ => rfl, fun _ _ => rfl⟩
  | succ m ih =>
    intro α x l h1 h2 h3
    have k := ih (aAdd α (gS (gN x)) l 6 (gP (gN x)) (gD (gN x)) t) (gN x) (gS (gN x)) (wU_add h1 (by omega) (gS_r _) h3 (by omega) (gP_r _) (gD_r _) ht) (by rw [aAdd_0]; omega) (by have := gS_r (gN x); omega)
    rw [rcA]
    refine ⟨k.1, by rw [k.2.1, aAdd_0]; omega, fun i hi => by rw [k.2.2.1 i hi, aAdd_z hi], fun o ho => by rw [k.2.2.2 o ho, aAdd_c ho]⟩
def fx (α : St) (b j : Int) : St := fun o i => if o = 3 ∧ b ≤ i ∧ i < j then α 1 (i + 1) else α o i
theorem fx_o {α : St} {b j o i : Int} (h : ¬ o = 3) : fx α b j o i = α o i := if_neg (fun z => h z.1)
theorem fx_of {α : St} {b j o : Int} (h : ¬ o = 3) : fx α b j o = α o := funext fun _ => fx_o h
theorem fx_t {α : St} {b j i : Int} (h : b ≤ i ∧ i < j) : fx α b j 3 i = α 1 (i + 1) := if_pos ⟨rfl, h⟩
theorem fx_f {α : St} {b j i : Int} (h : ¬ (b ≤ i ∧ i < j)) : fx α b j 3 i = α 3 i := if_neg (fun z => h z.2)
theorem fx_wU {α : St} {b j : Int} (h : wU α) (hb : 0 ≤ b) (hj : j < α 0 0) : wU (fx α b j) := by
  obtain ⟨h1, h2, h3⟩ := h
  refine ⟨by rw [fx_o (by omega)]; exact h1, by rw [fx_o (by omega)]; exact h2, fun u u1 u2 => ?_⟩
  rw [fx_o (by omega)] at u2
  have k := h3 u u1 u2
  rw [fx_o (o := 1) (by omega), fx_o (o := 2) (by omega), fx_o (o := 4) (by omega), fx_o (o := 5) (by omega), fx_o (o := 6) (by omega)]
  refine ⟨k.1, k.2.1, ?_, k.2.2.2⟩
  by_cases c : b ≤ u ∧ u < j
  · rw [fx_t c]
    have := (h3 (u + 1) (by omega) (by omega)).1
    omega
  · rw [fx_f c]; exact k.2.2.1
theorem fx_ax {α : St} {b j s l r p d t o i : Int} (ho : ¬ o = 3) : aAdd (fx α b j) s l r p d t o i = aAdd α s l r p d t o i := by
  have e0 : fx α b j 0 0 = α 0 0 := fx_o (by omega)
  have e : fx α b j o i = α o i := fx_o ho
  unfold aAdd upS
  rw [e0]
  simp only [e]
theorem aAdd_3 {α : St} {s l r p d t : Int} : aAdd α s l r p d t 3 (α 0 0) = r := by unfold aAdd; simp (disch := omega) only [upS_h, upS_o, upS_i, Int.reduceAdd, Int.reduceSub, Int.reduceMul, Int.reduceNeg]
theorem aAdd_1 {α : St} {s l r p d t : Int} : aAdd α s l r p d t 1 (α 0 0) = s := by unfold aAdd; simp (disch := omega) only [upS_h, upS_o, upS_i, Int.reduceAdd, Int.reduceSub, Int.reduceMul, Int.reduceNeg]
theorem fx_add0 {α : St} {b s l r p d t : Int} (h : α 0 0 = b) : aAdd (fx α b (α 0 0 - 1)) s l r p d t = fx (aAdd α s l r p d t) b (α 0 0) := by
  have e0 : fx α b (α 0 0 - 1) 0 0 = α 0 0 := fx_o (by omega)
  funext o i
  by_cases ho : o = 3
  · subst ho
    rw [fx_f (by omega)]
    by_cases hi : i = α 0 0
    · subst hi
      rw [aAdd_3]
      have := aAdd_3 (α := fx α b (α 0 0 - 1)) (s := s) (l := l) (r := r) (p := p) (d := d) (t := t)
      rw [e0] at this; exact this
    · rw [aAdd_o (by omega) hi, aAdd_o (by omega) (by rw [e0]; exact hi), fx_f (by omega)]
  · rw [fx_ax ho, fx_o ho]
theorem fx_addS {α : St} {b s l r p d t : Int} (h : b < α 0 0) : upS (aAdd (fx α b (α 0 0 - 1)) s l r p d t) 3 (α 0 0 - 1) s = fx (aAdd α s l r p d t) b (α 0 0) := by
  have e0 : fx α b (α 0 0 - 1) 0 0 = α 0 0 := fx_o (by omega)
  funext o i
  by_cases ho : o = 3
  · subst ho
    by_cases hi : i = α 0 0
    · subst hi
      rw [upS_i (by omega), fx_f (by omega), aAdd_3]
      have := aAdd_3 (α := fx α b (α 0 0 - 1)) (s := s) (l := l) (r := r) (p := p) (d := d) (t := t)
      rw [e0] at this; exact this
    · by_cases hj : i = α 0 0 - 1
      · subst hj
        rw [upS_h ⟨rfl, rfl⟩, fx_t (by omega), show α 0 0 - 1 + 1 = α 0 0 by omega, aAdd_1]
      · rw [upS_i hj, aAdd_o (by omega) (by rw [e0]; exact hi)]
        by_cases hk : b ≤ i ∧ i < α 0 0
        · rw [fx_t (by omega), fx_t hk, aAdd_o (by omega) (by omega)]
        · rw [fx_f (by omega), fx_f hk, aAdd_o (by omega) hi]
  · rw [upS_o ho, fx_ax ho, fx_o ho]
theorem cU_put {σ α : St} {u x : Int} (h : cU σ α) : cU (upS σ 4 u x) (upS α 3 u x) := by
  obtain ⟨h1, h2, h3⟩ := h
  refine ⟨by simp (disch := omega) only [upS_h, upS_o, upS_i, Int.reduceAdd, Int.reduceSub, Int.reduceMul, Int.reduceNeg, h1], fun v v1 v2 => ?_, fun t t1 t2 => ?_⟩
  · rw [upS_o (by omega)] at v2
    obtain ⟨a1, a2, a3, a4, a5, a6, a7⟩ := h2 v v1 v2
    refine ⟨by simp (disch := omega) only [upS_h, upS_o, upS_i, Int.reduceAdd, Int.reduceSub, Int.reduceMul, Int.reduceNeg, a1], by simp (disch := omega) only [upS_h, upS_o, upS_i, Int.reduceAdd, Int.reduceSub, Int.reduceMul, Int.reduceNeg, a2], ?_, by simp (disch := omega) only [upS_h, upS_o, upS_i, Int.reduceAdd, Int.reduceSub, Int.reduceMul, Int.reduceNeg, a4], by simp (disch := omega) only [upS_h, upS_o, upS_i, Int.reduceAdd, Int.reduceSub, Int.reduceMul, Int.reduceNeg, a5], by simp (disch := omega) only [upS_h, upS_o, upS_i, Int.reduceAdd, Int.reduceSub, Int.reduceMul, Int.reduceNeg, a6], ?_⟩
    · by_cases c : v = u
      · subst c; simp (disch := omega) only [upS_h, upS_o, upS_i, Int.reduceAdd, Int.reduceSub, Int.reduceMul, Int.reduceNeg]
      · simp (disch := omega) only [upS_h, upS_o, upS_i, Int.reduceAdd, Int.reduceSub, Int.reduceMul, Int.reduceNeg, a3]
    · unfold isNxt at a7 ⊢
      simp (disch := omega) only [upS_h, upS_o, upS_i, Int.reduceAdd, Int.reduceSub, Int.reduceMul, Int.reduceNeg]
      exact a7
  · have := h3 t t1 t2
    unfold isLst at this ⊢
    simp (disch := omega) only [upS_h, upS_o, upS_i, Int.reduceAdd, Int.reduceSub, Int.reduceMul, Int.reduceNeg]
    exact this
theorem c_recs {a t b : Int} (kx : St → Option (Int × St)) (ha : a ≤ 9) (ht : 0 ≤ t ∧ t ≤ 3) (hb : 0 ≤ b) : ∀ (m : Nat) (σ α : St) (x l i : Int) (n : Nat), cU σ (fx α b (α 0 0 - 1)) → wU α → α 0 0 = b + i → i + m = a → 0 ≤ i → α 0 0 + m ≤ 40 → (0 ≤ x ∧ x < 2147483648) → (0 ≤ l ∧ l ≤ 6) → m < n → ∃ τ, lp_X9_records_62 a t kx n σ x l i = kx τ ∧ cU τ (fx (rcA t m α x l) b (α 0 0 + m - 1)) ∧ ∀ o, (o < 1 ∨ 9 < o) → τ o = σ o := by
  intro m
  induction m with
  | zero =>
    intro σ α x l i n h hw h1 h2 h3 h4 h5 h6 hn
    obtain ⟨n, rfl⟩ : ∃ k, n = k + 1 := ⟨n - 1, by omega⟩
    rw [lp_X9_records_62]
    refine ⟨σ, by simp (disch := omega) only [↓rdA_t, ↓wrA_t, ↓ixA_t, ↓wrF_d, ↓bd2_s, ↓bd1_s, ↓bnd_d, ↓iww_t, ↓iww_f, ↓iwl_t, ↓iwl_f, ↓ilw_t, ↓ilw_f, ↓eww_t, ↓eww_f, ↓ewl_t, ↓ewl_f, ↓ez_t, ↓ez_f, ↓il_t, ↓il_f, il_t, il_f, ez_t, ez_f, if_true, if_false, upS_h, upS_o, upS_i, Int.reduceAdd, Int.reduceSub, Int.reduceMul, Int.reduceNeg, wI_id], ?_, fun _ _ => rfl⟩
    rw [rcA]; simpa using h
  | succ m ih =>
    intro σ α x l i n h hw h1 h2 h3 h4 h5 h6 hn
    obtain ⟨n, rfl⟩ : ∃ k, n = k + 1 := ⟨n - 1, by omega⟩
    have w1 := hw.1
    have r1 := gN_r x
    have r2 := gS_r (gN x)
    have hw2 : wU (fx α b (α 0 0 - 1)) := fx_wU hw hb (by omega)
    have e0 : fx α b (α 0 0 - 1) 0 0 = α 0 0 := fx_o (by omega)
    obtain ⟨τ, e1, e2, e3⟩ := cU_add (s := gS (gN x)) (l := l) (r := 6) (p := gP (gN x)) (d := gD (gN x)) (t := t) h hw2 (by omega) ht
    have hw3 := wU_add (s := gS (gN x)) (l := l) (r := 6) (p := gP (gN x)) (d := gD (gN x)) (t := t) hw (by omega) (gS_r _) h6 (by omega) (gP_r _) (gD_r _) ht
    rw [e0] at e1
    rw [lp_X9_records_62, rcA]
    simp (disch := omega) only [↓rdA_t, ↓wrA_t, ↓ixA_t, ↓wrF_d, ↓bd2_s, ↓bd1_s, ↓bnd_d, ↓iww_t, ↓iww_f, ↓iwl_t, ↓iwl_f, ↓ilw_t, ↓ilw_f, ↓eww_t, ↓eww_f, ↓ewl_t, ↓ewl_f, ↓ez_t, ↓ez_f, ↓il_t, ↓il_f, il_t, il_f, ez_t, ez_f, if_true, if_false, upS_h, upS_o, upS_i, Int.reduceAdd, Int.reduceSub, Int.reduceMul, Int.reduceNeg, wI_id, gN_e, gS_e, gP_e, gD_e, e1]
    by_cases c : i = 0
    · subst c
      rw [fx_add0 (by omega)] at e2
      obtain ⟨τ', g1, g2, g3⟩ := ih τ _ (gN x) (gS (gN x)) 1 n (by rw [aAdd_0, show α 0 0 + 1 - 1 = α 0 0 by omega]; exact e2) hw3 (by rw [aAdd_0]; omega) (by omega) (by omega) (by rw [aAdd_0]; omega) r1 (by omega) (by omega)
      rw [aAdd_0] at g2
      refine ⟨τ', ?_, ?_, fun o ho => (g3 o ho).trans (e3 o ho)⟩
      · simp (disch := omega) only [↓rdA_t, ↓wrA_t, ↓ixA_t, ↓wrF_d, ↓bd2_s, ↓bd1_s, ↓bnd_d, ↓iww_t, ↓iww_f, ↓iwl_t, ↓iwl_f, ↓ilw_t, ↓ilw_f, ↓eww_t, ↓eww_f, ↓ewl_t, ↓ewl_f, ↓ez_t, ↓ez_f, ↓il_t, ↓il_f, il_t, il_f, ez_t, ez_f, if_true, if_false, upS_h, upS_o, upS_i, Int.reduceAdd, Int.reduceSub, Int.reduceMul, Int.reduceNeg, wI_id]
        exact g1
      · rw [show α 0 0 + ((m + 1 : Nat) : Int) - 1 = α 0 0 + 1 + m - 1 by omega]; exact g2
    · have e4 := cU_put (u := α 0 0 - 1) (x := gS (gN x)) e2
      rw [fx_addS (by omega)] at e4
      have e5 : τ 1 8 = α 0 0 + 1 := by have := e2.1; rw [aAdd_0, e0] at this; exact this
      obtain ⟨τ', g1, g2, g3⟩ := ih _ _ (gN x) (gS (gN x)) (i + 1) n (by rw [aAdd_0, show α 0 0 + 1 - 1 = α 0 0 by omega]; exact e4) hw3 (by rw [aAdd_0]; omega) (by omega) (by omega) (by rw [aAdd_0]; omega) r1 (by omega) (by omega)
      rw [aAdd_0] at g2
      refine ⟨τ', ?_, ?_, fun o ho => ((g3 o ho).trans (upS_of (by omega))).trans (e3 o ho)⟩
      · unfold f_X8_putRight
        simp (disch := omega) only [↓rdA_t, ↓wrA_t, ↓ixA_t, ↓wrF_d, ↓bd2_s, ↓bd1_s, ↓bnd_d, ↓iww_t, ↓iww_f, ↓iwl_t, ↓iwl_f, ↓ilw_t, ↓ilw_f, ↓eww_t, ↓eww_f, ↓ewl_t, ↓ewl_f, ↓ez_t, ↓ez_f, ↓il_t, ↓il_f, il_t, il_f, ez_t, ez_f, if_true, if_false, upS_h, upS_o, upS_i, Int.reduceAdd, Int.reduceSub, Int.reduceMul, Int.reduceNeg, wI_id]
        exact g1
      · rw [show α 0 0 + ((m + 1 : Nat) : Int) - 1 = α 0 0 + 1 + m - 1 by omega]; exact g2
theorem m_recs {a t b : Int} (kx : St → Option (Int × St)) (ha : a ≤ 9) (ht : 0 ≤ t ∧ t ≤ 3) (hb : 0 ≤ b) : ∀ (m : Nat) (σ α : St) (x l i : Int) (n : Nat), mU σ α → wU α → α 0 0 = b + i → i + m = a → 0 ≤ i → α 0 0 + m ≤ 40 → (0 ≤ x ∧ x < 2147483648) → (0 ≤ l ∧ l ≤ 6) → (i = 0 → l = 6) → (0 < i → l = α 1 (α 0 0 - 1)) → m < n → ∃ τ, lp_X10_records_72 a t b kx n σ x i = kx τ ∧ mU τ (rcA t m α x l) ∧ (∀ o, ¬ o = 118 → ¬ o = 119 → τ o = σ o) ∧ ∀ i, ¬ i = 1 → τ 118 i = σ 118 i := by
  intro m
  induction m with
  | zero =>
    intro σ α x l i n h hw h1 h2 h3 h4 h5 h6 h7 h8 hn
    obtain ⟨n, rfl⟩ : ∃ k, n = k + 1 := ⟨n - 1, by omega⟩
    rw [lp_X10_records_72]
    exact ⟨σ, by simp (disch := omega) only [↓rdA_t, ↓wrA_t, ↓ixA_t, ↓wrF_d, ↓bd2_s, ↓bd1_s, ↓bnd_d, ↓iww_t, ↓iww_f, ↓iwl_t, ↓iwl_f, ↓ilw_t, ↓ilw_f, ↓eww_t, ↓eww_f, ↓ewl_t, ↓ewl_f, ↓ez_t, ↓ez_f, ↓il_t, ↓il_f, il_t, il_f, ez_t, ez_f, if_true, if_false, upS_h, upS_o, upS_i, Int.reduceAdd, Int.reduceSub, Int.reduceMul, Int.reduceNeg, wI_id], h, fun _ _ _ => rfl, fun _ _ => rfl⟩
  | succ m ih =>
    intro σ α x l i n h hw h1 h2 h3 h4 h5 h6 h7 h8 hn
    obtain ⟨n, rfl⟩ : ∃ k, n = k + 1 := ⟨n - 1, by omega⟩
    have w1 := hw.1
    have r1 := gN_r x
    have r2 := gS_r (gN x)
    have hs := h.1
    obtain ⟨τ, e1, e2, e3, e4⟩ := mU_add (s := gS (gN x)) (l := l) (r := 6) (p := gP (gN x)) (d := gD (gN x)) (t := t) h hw (by omega)
    have hw3 := wU_add (s := gS (gN x)) (l := l) (r := 6) (p := gP (gN x)) (d := gD (gN x)) (t := t) hw (by omega) (gS_r _) h6 (by omega) (gP_r _) (gD_r _) ht
    obtain ⟨τ', g1, g2, g3, g4⟩ := ih τ _ (gN x) (gS (gN x)) (i + 1) n e2 hw3 (by rw [aAdd_0]; omega) (by omega) (by omega) (by rw [aAdd_0]; omega) r1 (by omega) (by omega) (fun _ => by rw [aAdd_0, show α 0 0 + 1 - 1 = α 0 0 by omega, aAdd_1]) (by omega)
    rw [lp_X10_records_72, rcA]
    refine ⟨τ', ?_, g2, fun o o1 o2 => (g3 o o1 o2).trans (e3 o o1 o2), fun j hj => (g4 j hj).trans (e4 j hj)⟩
    unfold jn_X10_records_115
    by_cases c : i = 0
    · have c2 := h7 c
      subst c2
      simp (disch := omega) only [↓rdA_t, ↓wrA_t, ↓ixA_t, ↓wrF_d, ↓bd2_s, ↓bd1_s, ↓bnd_d, ↓iww_t, ↓iww_f, ↓iwl_t, ↓iwl_f, ↓ilw_t, ↓ilw_f, ↓eww_t, ↓eww_f, ↓ewl_t, ↓ewl_f, ↓ez_t, ↓ez_f, ↓il_t, ↓il_f, il_t, il_f, ez_t, ez_f, if_true, if_false, upS_h, upS_o, upS_i, Int.reduceAdd, Int.reduceSub, Int.reduceMul, Int.reduceNeg, wI_id, gN_e, gS_e, gP_e, gD_e, e1]
      exact g1
    · have c2 := h8 (by omega)
      have e5 := m_at h hw (u := α 0 0 - 1) (w := 0) (by omega) (by omega) (by omega) (by omega)
      rw [← hs, show (1 + 0 : Int) = 1 by omega, hs, ← c2] at e5
      simp (disch := omega) only [↓rdA_t, ↓wrA_t, ↓ixA_t, ↓wrF_d, ↓bd2_s, ↓bd1_s, ↓bnd_d, ↓iww_t, ↓iww_f, ↓iwl_t, ↓iwl_f, ↓ilw_t, ↓ilw_f, ↓eww_t, ↓eww_f, ↓ewl_t, ↓ewl_f, ↓ez_t, ↓ez_f, ↓il_t, ↓il_f, il_t, il_f, ez_t, ez_f, if_true, if_false, upS_h, upS_o, upS_i, Int.reduceAdd, Int.reduceSub, Int.reduceMul, Int.reduceNeg, wI_id, gN_e, gS_e, gP_e, gD_e, e5, hs, e1]
      exact g1
theorem m_fix {b : Int} (kx : St → Option (Int × St)) {α : St} (hb : 0 ≤ b) (hw : wU α) : ∀ (m : Nat) (σ : St) (j : Int) (n : Nat), mU σ (fx α b j) → b ≤ j → j + 1 + m = α 0 0 → m < n → ∃ τ, lp_X10_records_171 kx n σ j = kx τ ∧ mU τ (fx α b (α 0 0 - 1)) ∧ (∀ o, ¬ o = 119 → τ o = σ o) := by
  intro m
  have w1 := hw.2.1
  induction m with
  | zero =>
    intro σ j n h h1 h2 hn
    obtain ⟨n, rfl⟩ : ∃ k, n = k + 1 := ⟨n - 1, by omega⟩
    have hs := h.1
    rw [fx_o (by omega)] at hs
    rw [lp_X10_records_171]
    refine ⟨σ, by simp (disch := omega) only [↓rdA_t, ↓wrA_t, ↓ixA_t, ↓wrF_d, ↓bd2_s, ↓bd1_s, ↓bnd_d, ↓iww_t, ↓iww_f, ↓iwl_t, ↓iwl_f, ↓ilw_t, ↓ilw_f, ↓eww_t, ↓eww_f, ↓ewl_t, ↓ewl_f, ↓ez_t, ↓ez_f, ↓il_t, ↓il_f, il_t, il_f, ez_t, ez_f, if_true, if_false, upS_h, upS_o, upS_i, Int.reduceAdd, Int.reduceSub, Int.reduceMul, Int.reduceNeg, wI_id], ?_, fun _ _ => rfl⟩
    rw [show α 0 0 - 1 = j by omega]; exact h
  | succ m ih =>
    intro σ j n h h1 h2 hn
    obtain ⟨n, rfl⟩ : ∃ k, n = k + 1 := ⟨n - 1, by omega⟩
    have hs := h.1
    have e0 : fx α b j 0 0 = α 0 0 := fx_o (by omega)
    rw [e0] at hs
    have e5 := m_at h (fx_wU hw hb (by omega)) (u := j + 1) (w := 0) (by omega) (by omega) (by omega) (by omega)
    rw [show (1 + 0 : Int) = 1 by omega, fx_o (by omega)] at e5
    have k : mU (upS σ 119 (6 * j + 2) (α 1 (j + 1))) (fx α b (j + 1)) := by
      refine ⟨by rw [upS_o (by omega), fx_o (by omega)]; exact hs, fun u w u1 u2 u3 u4 => ?_⟩
      rw [fx_o (by omega)] at u2
      have e6 := h.2 u w u1 (by omega) u3 u4
      by_cases c : w = 2
      · subst c
        by_cases c2 : u = j
        · subst c2
          rw [upS_h ⟨rfl, rfl⟩, show (1 + 2 : Int) = 3 by omega, fx_t (by omega)]
        · rw [upS_i (by omega), e6, show (1 + 2 : Int) = 3 by omega]
          by_cases c3 : b ≤ u ∧ u < j
          · rw [fx_t c3, fx_t (by omega)]
          · rw [fx_f c3, fx_f (by omega)]
      · rw [upS_i (by omega), e6, fx_o (by omega), fx_o (by omega)]
    obtain ⟨τ, g1, g2, g3⟩ := ih _ (j + 1) n k (by omega) (by omega) (by omega)
    refine ⟨τ, ?_, g2, fun o ho => (g3 o ho).trans (upS_of (by omega))⟩
    rw [lp_X10_records_171]
    simp (disch := omega) only [↓rdA_t, ↓wrA_t, ↓ixA_t, ↓wrF_d, ↓bd2_s, ↓bd1_s, ↓bnd_d, ↓iww_t, ↓iww_f, ↓iwl_t, ↓iwl_f, ↓ilw_t, ↓ilw_f, ↓eww_t, ↓eww_f, ↓ewl_t, ↓ewl_f, ↓ez_t, ↓ez_f, ↓il_t, ↓il_f, il_t, il_f, ez_t, ez_f, if_true, if_false, upS_h, upS_o, upS_i, Int.reduceAdd, Int.reduceSub, Int.reduceMul, Int.reduceNeg, wI_id, e5]
    exact g1
abbrev okRec (s n t : Int) : Prop := (0 ≤ s ∧ s ≤ 999999) ∧ (1 ≤ n ∧ n ≤ 9) ∧ (0 ≤ t ∧ t ≤ 3)
def aRecs (α : St) (s n t : Int) : St := fx (rcA t n.toNat α s 6) (α 0 0) (α 0 0 + n - 1)
def rRec (α : St) (s n t : Int) : Int := if okRec s n t then (if 40 < α 0 0 + n then -4 else α 0 0 + n) else -2
def aRec (α : St) (s n t : Int) : St := if okRec s n t then (if 40 < α 0 0 + n then aR α 5 else aRecs α s n t) else aR α 3
theorem aRecs_p {α : St} {s n t : Int} (hw : WF α) (c : okRec s n t) (cn : ¬ 40 < α 0 0 + n) : wU (aRecs α s n t) ∧ aRecs α s n t 0 0 = α 0 0 + n ∧ (∀ i, ¬ i = 0 → aRecs α s n t 0 i = α 0 i) ∧ ∀ o, 7 ≤ o → aRecs α s n t o = α o := by
  unfold okRec at c
  have k := rcA_p t c.2.2 n.toNat α s 6 hw.1 (by omega) (by omega)
  have w := hw.1.1
  unfold aRecs
  refine ⟨fx_wU k.1 w (by rw [k.2.1]; omega), by rw [fx_o (by omega), k.2.1]; omega, fun i hi => by rw [fx_o (by omega)]; exact k.2.2.1 i hi, fun o ho => by rw [fx_of (by omega)]; exact k.2.2.2 o ho⟩
theorem wf_rec {α : St} {s n t : Int} (hw : WF α) : WF (aRec α s n t) := by
  unfold aRec
  by_cases c : okRec s n t
  · rw [if_pos c]
    by_cases cn : 40 < α 0 0 + n
    · rw [if_pos cn]; exact WF_aR 5 (by omega) hw
    · rw [if_neg cn]
      have k := aRecs_p hw c cn
      exact WF_chU k.2.2.1 k.2.2.2 hw k.1
  · rw [if_neg c]; exact WF_aR 3 (by omega) hw
theorem fx_nil {α : St} {b j : Int} (h : j ≤ b) : fx α b j = α := by
  funext o i
  unfold fx
  rw [if_neg (by omega)]
theorem xc_records {σ α : St} {s n t : Int} (h : IC σ α) (hw : WF α) (hs : inR s) (hn : inR n) (ht : inR t) : oC (f_X9_records σ s n t) σ α (rRec α s n t) (aRec α s n t) := by
  unfold inR at hs hn ht
  have w1 := hw.1.1
  have w2 := hw.1.2.1
  have h8 := h.1.1
  unfold f_X9_records f_X9_isTake rRec aRec
  by_cases c : okRec s n t
  · rw [if_pos c, if_pos c]
    have c' := c
    unfold okRec at c'
    by_cases cn : 40 < α 0 0 + n
    · rw [if_pos cn, if_pos cn]
      simp (disch := omega) only [↓rdA_t, ↓wrA_t, ↓ixA_t, ↓wrF_d, ↓bd2_s, ↓bd1_s, ↓bnd_d, ↓iww_t, ↓iww_f, ↓iwl_t, ↓iwl_f, ↓ilw_t, ↓ilw_f, ↓eww_t, ↓eww_f, ↓ewl_t, ↓ewl_f, ↓ez_t, ↓ez_f, ↓il_t, ↓il_f, il_t, il_f, ez_t, ez_f, if_true, if_false, upS_h, upS_o, upS_i, Int.reduceAdd, Int.reduceSub, Int.reduceMul, Int.reduceNeg, wI_id, within_t]
      exact oC_id (oC_full h)
    · rw [if_neg cn, if_neg cn]
      have k := aRecs_p hw c cn
      obtain ⟨τ, g1, g2, g3⟩ := c_recs (a := n) (t := t) (b := α 0 0) (fun σ27 => some (σ27 1 8, σ27)) (by omega) c'.2.2 w1 n.toNat σ α s 6 0 1000 (by rw [fx_nil (by omega)]; exact h.1) hw.1 (by omega) (by omega) (by omega) (by omega) (by omega) (by omega) (by omega)
      rw [show α 0 0 + (n.toNat : Int) - 1 = α 0 0 + n - 1 by omega] at g2
      simp (disch := omega) only [↓rdA_t, ↓wrA_t, ↓ixA_t, ↓wrF_d, ↓bd2_s, ↓bd1_s, ↓bnd_d, ↓iww_t, ↓iww_f, ↓iwl_t, ↓iwl_f, ↓ilw_t, ↓ilw_f, ↓eww_t, ↓eww_f, ↓ewl_t, ↓ewl_f, ↓ez_t, ↓ez_f, ↓il_t, ↓il_f, il_t, il_f, ez_t, ez_f, if_true, if_false, upS_h, upS_o, upS_i, Int.reduceAdd, Int.reduceSub, Int.reduceMul, Int.reduceNeg, wI_id, within_t, i2l_r, g1]
      refine ⟨τ, ?_, IC_chU g3 k.2.2.1 k.2.2.2 h g2, fun o ho => g3 o (by omega)⟩
      have := g2.1
      have k2 := k.2.1
      unfold aRecs at k2
      rw [k2] at this
      rw [this]
  · rw [if_neg c, if_neg c]
    have c' := c
    unfold okRec at c'
    by_cases c1 : 0 ≤ s ∧ s ≤ 999999
    · by_cases c2 : 1 ≤ n ∧ n ≤ 9
      · by_cases c3 : 0 ≤ t ∧ t ≤ 3
        · exact absurd ⟨c1, c2, c3⟩ c
        · simp (disch := omega) only [↓rdA_t, ↓wrA_t, ↓ixA_t, ↓wrF_d, ↓bd2_s, ↓bd1_s, ↓bnd_d, ↓iww_t, ↓iww_f, ↓iwl_t, ↓iwl_f, ↓ilw_t, ↓ilw_f, ↓eww_t, ↓eww_f, ↓ewl_t, ↓ewl_f, ↓ez_t, ↓ez_f, ↓il_t, ↓il_f, il_t, il_f, ez_t, ez_f, if_true, if_false, upS_h, upS_o, upS_i, Int.reduceAdd, Int.reduceSub, Int.reduceMul, Int.reduceNeg, wI_id, within_t, within_f]
          exact oC_id (oC_bad h)
      · simp (disch := omega) only [↓rdA_t, ↓wrA_t, ↓ixA_t, ↓wrF_d, ↓bd2_s, ↓bd1_s, ↓bnd_d, ↓iww_t, ↓iww_f, ↓iwl_t, ↓iwl_f, ↓ilw_t, ↓ilw_f, ↓eww_t, ↓eww_f, ↓ewl_t, ↓ewl_f, ↓ez_t, ↓ez_f, ↓il_t, ↓il_f, il_t, il_f, ez_t, ez_f, if_true, if_false, upS_h, upS_o, upS_i, Int.reduceAdd, Int.reduceSub, Int.reduceMul, Int.reduceNeg, wI_id, within_t, within_f]
        exact oC_id (oC_bad h)
    · simp (disch := omega) only [↓rdA_t, ↓wrA_t, ↓ixA_t, ↓wrF_d, ↓bd2_s, ↓bd1_s, ↓bnd_d, ↓iww_t, ↓iww_f, ↓iwl_t, ↓iwl_f, ↓ilw_t, ↓ilw_f, ↓eww_t, ↓eww_f, ↓ewl_t, ↓ewl_f, ↓ez_t, ↓ez_f, ↓il_t, ↓il_f, il_t, il_f, ez_t, ez_f, if_true, if_false, upS_h, upS_o, upS_i, Int.reduceAdd, Int.reduceSub, Int.reduceMul, Int.reduceNeg, wI_id, within_t, within_f]
      exact oC_id (oC_bad h)
theorem xm_records {σ α : St} {s n t : Int} (h : IM σ α) (hw : WF α) (hs : inR s) (hn : inR n) (ht : inR t) : oM (f_X10_records σ s n t) σ α (rRec α s n t) (aRec α s n t) := by
  unfold inR at hs hn ht
  have w1 := hw.1.1
  have w2 := hw.1.2.1
  have h8 := h.1.1
  unfold f_X10_records rRec aRec
  by_cases c : okRec s n t
  · rw [if_pos c, if_pos c]
    have c' := c
    unfold okRec at c'
    by_cases cn : 40 < α 0 0 + n
    · rw [if_pos cn, if_pos cn]
      simp (disch := omega) only [↓rdA_t, ↓wrA_t, ↓ixA_t, ↓wrF_d, ↓bd2_s, ↓bd1_s, ↓bnd_d, ↓iww_t, ↓iww_f, ↓iwl_t, ↓iwl_f, ↓ilw_t, ↓ilw_f, ↓eww_t, ↓eww_f, ↓ewl_t, ↓ewl_f, ↓ez_t, ↓ez_f, ↓il_t, ↓il_f, il_t, il_f, ez_t, ez_f, if_true, if_false, upS_h, upS_o, upS_i, Int.reduceAdd, Int.reduceSub, Int.reduceMul, Int.reduceNeg, wI_id, in_t]
      exact oM_id (oM_full h)
    · rw [if_neg cn, if_neg cn]
      have k := aRecs_p hw c cn
      have k0 := rcA_p t c'.2.2 n.toNat α s 6 hw.1 (by omega) (by omega)
      obtain ⟨τ, g1, g2, g3, g4⟩ := m_recs (a := n) (t := t) (b := α 0 0) (fun σ23 => lp_X10_records_171 (fun σ27 => some (σ27 118 1, σ27)) 1000 σ23 (σ 118 1)) (by omega) c'.2.2 w1 n.toNat σ α s 6 0 1000 h.1 hw.1 (by omega) (by omega) (by omega) (by omega) (by omega) (by omega) (by omega) (by omega) (by omega)
      obtain ⟨τ', f1, f2, f3⟩ := m_fix (b := α 0 0) (fun σ27 => some (σ27 118 1, σ27)) w1 k0.1 (n.toNat - 1) τ (α 0 0) 1000 (by rw [fx_nil (by omega)]; exact g2) (by omega) (by omega) (by omega)
      rw [← h8] at g1 f1
      simp (disch := omega) only [↓rdA_t, ↓wrA_t, ↓ixA_t, ↓wrF_d, ↓bd2_s, ↓bd1_s, ↓bnd_d, ↓iww_t, ↓iww_f, ↓iwl_t, ↓iwl_f, ↓ilw_t, ↓ilw_f, ↓eww_t, ↓eww_f, ↓ewl_t, ↓ewl_f, ↓ez_t, ↓ez_f, ↓il_t, ↓il_f, il_t, il_f, ez_t, ez_f, if_true, if_false, upS_h, upS_o, upS_i, Int.reduceAdd, Int.reduceSub, Int.reduceMul, Int.reduceNeg, wI_id, in_t]
      simp (disch := omega) only [↓rdA_t, ↓wrA_t, ↓ixA_t, ↓wrF_d, ↓bd2_s, ↓bd1_s, ↓bnd_d, ↓iww_t, ↓iww_f, ↓iwl_t, ↓iwl_f, ↓ilw_t, ↓ilw_f, ↓eww_t, ↓eww_f, ↓ewl_t, ↓ewl_f, ↓ez_t, ↓ez_f, ↓il_t, ↓il_f, il_t, il_f, ez_t, ez_f, if_true, if_false, upS_h, upS_o, upS_i, Int.reduceAdd, Int.reduceSub, Int.reduceMul, Int.reduceNeg, wI_id, i2l_r, g1, f1]
      have e : fx (rcA t n.toNat α s 6) (α 0 0) (rcA t n.toNat α s 6 0 0 - 1) = aRecs α s n t := by
        unfold aRecs
        rw [k0.2.1, show α 0 0 + (n.toNat : Int) - 1 = α 0 0 + n - 1 by omega]
      rw [e] at f2
      refine ⟨τ', ?_, IM_chU (fun i _ hi => by rw [f3 118 (by omega)]; exact g4 i hi) (fun o o1 o2 => (f3 o (by omega)).trans (g3 o (by omega) (by omega))) k.2.2.1 k.2.2.2 h f2, fun o ho => (f3 o (by omega)).trans (g3 o (by omega) (by omega))⟩
      rw [f2.1, k.2.1]
  · rw [if_neg c, if_neg c]
    have c' := c
    unfold okRec at c'
    by_cases c1 : 0 ≤ s ∧ s ≤ 999999
    · by_cases c2 : 1 ≤ n ∧ n ≤ 9
      · by_cases c3 : 0 ≤ t ∧ t ≤ 3
        · exact absurd ⟨c1, c2, c3⟩ c
        · simp (disch := omega) only [↓rdA_t, ↓wrA_t, ↓ixA_t, ↓wrF_d, ↓bd2_s, ↓bd1_s, ↓bnd_d, ↓iww_t, ↓iww_f, ↓iwl_t, ↓iwl_f, ↓ilw_t, ↓ilw_f, ↓eww_t, ↓eww_f, ↓ewl_t, ↓ewl_f, ↓ez_t, ↓ez_f, ↓il_t, ↓il_f, il_t, il_f, ez_t, ez_f, if_true, if_false, upS_h, upS_o, upS_i, Int.reduceAdd, Int.reduceSub, Int.reduceMul, Int.reduceNeg, wI_id, in_t, in_f]
          exact oM_id (oM_bad (-2) h)
      · simp (disch := omega) only [↓rdA_t, ↓wrA_t, ↓ixA_t, ↓wrF_d, ↓bd2_s, ↓bd1_s, ↓bnd_d, ↓iww_t, ↓iww_f, ↓iwl_t, ↓iwl_f, ↓ilw_t, ↓ilw_f, ↓eww_t, ↓eww_f, ↓ewl_t, ↓ewl_f, ↓ez_t, ↓ez_f, ↓il_t, ↓il_f, il_t, il_f, ez_t, ez_f, if_true, if_false, upS_h, upS_o, upS_i, Int.reduceAdd, Int.reduceSub, Int.reduceMul, Int.reduceNeg, wI_id, in_t, in_f]
        exact oM_id (oM_bad (-2) h)
    · simp (disch := omega) only [↓rdA_t, ↓wrA_t, ↓ixA_t, ↓wrF_d, ↓bd2_s, ↓bd1_s, ↓bnd_d, ↓iww_t, ↓iww_f, ↓iwl_t, ↓iwl_f, ↓ilw_t, ↓ilw_f, ↓eww_t, ↓eww_f, ↓ewl_t, ↓ewl_f, ↓ez_t, ↓ez_f, ↓il_t, ↓il_f, il_t, il_f, ez_t, ez_f, if_true, if_false, upS_h, upS_o, upS_i, Int.reduceAdd, Int.reduceSub, Int.reduceMul, Int.reduceNeg, wI_id, in_t, in_f]
      exact oM_id (oM_bad (-2) h)
end
section
/-! ===== what the reference's searches read: all but the refusals, the text and the one that is gone ===== -/
def mJ (σ α : St) : Prop := σ 118 5 = α 0 2 ∧ ∀ q, 0 ≤ q → q < 6 → σ 121 q = α 10 q
def JM (σ α : St) : Prop := mU σ α ∧ mR σ α ∧ mJ σ α ∧ True ∧ mT σ α
theorem JM_of {σ α : St} (h : IM σ α) : JM σ α := ⟨h.1, h.2.1, ⟨h.2.2.1.1, h.2.2.1.2.2.2.2.1⟩, trivial, h.2.2.2.2⟩
theorem JM_scr {σ τ α : St} (hf : ∀ i, (i = 1 ∨ i = 3 ∨ i = 5 ∨ i = 10 ∨ i = 11) → τ 118 i = σ 118 i) (hs : ∀ o, 119 ≤ o → o ≤ 125 → τ o = σ o) (h : JM σ α) : JM τ α := by
  refine ⟨mU_c (hf 1 (by omega)) (hs 119 (by omega) (by omega)) rfl (fun _ _ _ => rfl) h.1, mR_c (hf 3 (by omega)) (hs 120 (by omega) (by omega)) rfl (fun _ _ _ => rfl) h.2.1, ⟨by rw [hf 5 (by omega)]; exact h.2.2.1.1, by rw [hs 121 (by omega) (by omega)]; exact h.2.2.1.2⟩, trivial, mT_c (hf 10 (by omega)) (hf 11 (by omega)) (fun o _ _ => hs o (by omega) (by omega)) (fun _ _ _ => rfl) (fun _ _ _ => rfl) h.2.2.2.2⟩
/-! ===== targets ===== -/
theorem c_isT {σ α : St} {a : Int} (h : cR σ α) (hw : wR α) (ha : inR a) : f_X9_isTarget σ a = if 0 ≤ a ∧ a < α 0 1 then 1 else 0 := by
  unfold inR at ha
  obtain ⟨w1, w2, w3⟩ := hw
  have hs := h.1
  unfold f_X9_isTarget
  by_cases c : 0 ≤ a ∧ a < α 0 1
  · rw [if_pos c]
    simp (disch := omega) only [↓rdA_t, ↓wrA_t, ↓ixA_t, ↓wrF_d, ↓bd2_s, ↓bd1_s, ↓bnd_d, ↓iww_t, ↓iww_f, ↓iwl_t, ↓iwl_f, ↓ilw_t, ↓ilw_f, ↓eww_t, ↓eww_f, ↓ewl_t, ↓ewl_f, ↓ez_t, ↓ez_f, ↓il_t, ↓il_f, il_t, il_f, ez_t, ez_f, if_true, if_false, upS_h, upS_o, upS_i, Int.reduceAdd, Int.reduceSub, Int.reduceMul, Int.reduceNeg, wI_id]
  · rw [if_neg c]
    by_cases c2 : 0 ≤ a
    · simp (disch := omega) only [↓rdA_t, ↓wrA_t, ↓ixA_t, ↓wrF_d, ↓bd2_s, ↓bd1_s, ↓bnd_d, ↓iww_t, ↓iww_f, ↓iwl_t, ↓iwl_f, ↓ilw_t, ↓ilw_f, ↓eww_t, ↓eww_f, ↓ewl_t, ↓ewl_f, ↓ez_t, ↓ez_f, ↓il_t, ↓il_f, il_t, il_f, ez_t, ez_f, if_true, if_false, upS_h, upS_o, upS_i, Int.reduceAdd, Int.reduceSub, Int.reduceMul, Int.reduceNeg, wI_id]
    · simp (disch := omega) only [↓rdA_t, ↓wrA_t, ↓ixA_t, ↓wrF_d, ↓bd2_s, ↓bd1_s, ↓bnd_d, ↓iww_t, ↓iww_f, ↓iwl_t, ↓iwl_f, ↓ilw_t, ↓ilw_f, ↓eww_t, ↓eww_f, ↓ewl_t, ↓ewl_f, ↓ez_t, ↓ez_f, ↓il_t, ↓il_f, il_t, il_f, ez_t, ez_f, if_true, if_false, upS_h, upS_o, upS_i, Int.reduceAdd, Int.reduceSub, Int.reduceMul, Int.reduceNeg, wI_id]
theorem m_isT {σ α : St} {a : Int} (h : mR σ α) (hw : wR α) (ha : inR a) : f_X10_isTarget σ a = if 0 ≤ a ∧ a < α 0 1 then 1 else 0 := by
  unfold inR at ha
  obtain ⟨w1, w2, w3⟩ := hw
  unfold f_X10_isTarget
  by_cases c : 0 ≤ a ∧ a < α 0 1
  · rw [if_pos c, h.1, in_t2 (by omega)]
  · rw [if_neg c, h.1, in_f2 (by omega)]
def tL (α : St) (k : Int) : Int := if k = 0 then 6 else α 7 (k - 1)
def tR (α : St) (k : Int) : Int := if k = α 0 1 - 1 then 6 else α 7 (k + 1)
theorem tL_r {α : St} {k : Int} (hw : wR α) (h0 : 0 ≤ k) (h1 : k < α 0 1) : 0 ≤ tL α k ∧ tL α k ≤ 6 := by
  unfold tL
  by_cases c : k = 0
  · rw [if_pos c]; omega
  · rw [if_neg c]
    have := (hw.2.2 (k - 1) (by omega) (by omega)).1
    omega
theorem tR_r {α : St} {k : Int} (hw : wR α) (h0 : 0 ≤ k) (h1 : k < α 0 1) : 0 ≤ tR α k ∧ tR α k ≤ 6 := by
  unfold tR
  by_cases c : k = α 0 1 - 1
  · rw [if_pos c]; omega
  · rw [if_neg c]
    have := (hw.2.2 (k + 1) (by omega) (by omega)).1
    omega
theorem c_tL {σ α : St} {k : Int} (h : cR σ α) (hw : wR α) (h0 : 0 ≤ k) (h1 : k < α 0 1) : f_X4_leftOf σ 10 k = some (tL α k) := by
  obtain ⟨w1, w2, w3⟩ := hw
  have hs := h.1
  unfold f_X4_leftOf tL
  by_cases c : k = 0
  · simp (disch := omega) only [↓rdA_t, ↓wrA_t, ↓ixA_t, ↓wrF_d, ↓bd2_s, ↓bd1_s, ↓bnd_d, ↓iww_t, ↓iww_f, ↓iwl_t, ↓iwl_f, ↓ilw_t, ↓ilw_f, ↓eww_t, ↓eww_f, ↓ewl_t, ↓ewl_f, ↓ez_t, ↓ez_f, ↓il_t, ↓il_f, il_t, il_f, ez_t, ez_f, if_true, if_false, upS_h, upS_o, upS_i, Int.reduceAdd, Int.reduceSub, Int.reduceMul, Int.reduceNeg, wI_id]
  · have e := (h.2 (k - 1) (by omega) (by omega)).1
    simp (disch := omega) only [↓rdA_t, ↓wrA_t, ↓ixA_t, ↓wrF_d, ↓bd2_s, ↓bd1_s, ↓bnd_d, ↓iww_t, ↓iww_f, ↓iwl_t, ↓iwl_f, ↓ilw_t, ↓ilw_f, ↓eww_t, ↓eww_f, ↓ewl_t, ↓ewl_f, ↓ez_t, ↓ez_f, ↓il_t, ↓il_f, il_t, il_f, ez_t, ez_f, if_true, if_false, upS_h, upS_o, upS_i, Int.reduceAdd, Int.reduceSub, Int.reduceMul, Int.reduceNeg, wI_id, e]
theorem c_tR {σ α : St} {k : Int} (h : cR σ α) (hw : wR α) (h0 : 0 ≤ k) (h1 : k < α 0 1) : f_X4_rightOf σ 10 k = some (tR α k) := by
  obtain ⟨w1, w2, w3⟩ := hw
  have hs := h.1
  unfold f_X4_rightOf tR
  by_cases c : k = α 0 1 - 1
  · simp (disch := omega) only [↓rdA_t, ↓wrA_t, ↓ixA_t, ↓wrF_d, ↓bd2_s, ↓bd1_s, ↓bnd_d, ↓iww_t, ↓iww_f, ↓iwl_t, ↓iwl_f, ↓ilw_t, ↓ilw_f, ↓eww_t, ↓eww_f, ↓ewl_t, ↓ewl_f, ↓ez_t, ↓ez_f, ↓il_t, ↓il_f, il_t, il_f, ez_t, ez_f, if_true, if_false, upS_h, upS_o, upS_i, Int.reduceAdd, Int.reduceSub, Int.reduceMul, Int.reduceNeg, wI_id]
  · have e := (h.2 (k + 1) (by omega) (by omega)).1
    simp (disch := omega) only [↓rdA_t, ↓wrA_t, ↓ixA_t, ↓wrF_d, ↓bd2_s, ↓bd1_s, ↓bnd_d, ↓iww_t, ↓iww_f, ↓iwl_t, ↓iwl_f, ↓ilw_t, ↓ilw_f, ↓eww_t, ↓eww_f, ↓ewl_t, ↓ewl_f, ↓ez_t, ↓ez_f, ↓il_t, ↓il_f, il_t, il_f, ez_t, ez_f, if_true, if_false, upS_h, upS_o, upS_i, Int.reduceAdd, Int.reduceSub, Int.reduceMul, Int.reduceNeg, wI_id, e]
theorem m_row {σ α : St} {k w : Int} (h : mR σ α) (hw : wR α) (h0 : 0 ≤ k) (h1 : k < α 0 1) (h2 : 0 ≤ w) (h3 : w < 3) : ∀ {β : Type} (K : Int → Option β), rdA 24 σ 120 (3 * k + w) K = K (α (7 + w) k) := by
  intro β K
  have := hw.2.1
  rw [rdA_t (by omega), h.2 k w h0 h1 h2 h3]
theorem m_tL {σ α : St} {k : Int} (h : mR σ α) (hw : wR α) (h0 : 0 ≤ k) (h1 : k < α 0 1) : f_X10_targetLeft σ k = some (tL α k) := by
  have w2 := hw.2.1
  unfold f_X10_targetLeft tL
  by_cases c : k = 0
  · simp (disch := omega) only [↓rdA_t, ↓wrA_t, ↓ixA_t, ↓wrF_d, ↓bd2_s, ↓bd1_s, ↓bnd_d, ↓iww_t, ↓iww_f, ↓iwl_t, ↓iwl_f, ↓ilw_t, ↓ilw_f, ↓eww_t, ↓eww_f, ↓ewl_t, ↓ewl_f, ↓ez_t, ↓ez_f, ↓il_t, ↓il_f, il_t, il_f, ez_t, ez_f, if_true, if_false, upS_h, upS_o, upS_i, Int.reduceAdd, Int.reduceSub, Int.reduceMul, Int.reduceNeg, wI_id]
  · have e := h.2 (k - 1) 0 (by omega) (by omega) (by omega) (by omega)
    rw [Int.add_zero, Int.add_zero] at e
    simp (disch := omega) only [↓rdA_t, ↓wrA_t, ↓ixA_t, ↓wrF_d, ↓bd2_s, ↓bd1_s, ↓bnd_d, ↓iww_t, ↓iww_f, ↓iwl_t, ↓iwl_f, ↓ilw_t, ↓ilw_f, ↓eww_t, ↓eww_f, ↓ewl_t, ↓ewl_f, ↓ez_t, ↓ez_f, ↓il_t, ↓il_f, il_t, il_f, ez_t, ez_f, if_true, if_false, upS_h, upS_o, upS_i, Int.reduceAdd, Int.reduceSub, Int.reduceMul, Int.reduceNeg, wI_id, e]
theorem m_tR {σ α : St} {k : Int} (h : mR σ α) (hw : wR α) (h0 : 0 ≤ k) (h1 : k < α 0 1) : f_X10_targetRight σ k = some (tR α k) := by
  have w2 := hw.2.1
  have hs := h.1
  unfold f_X10_targetRight tR
  by_cases c : k = α 0 1 - 1
  · simp (disch := omega) only [↓rdA_t, ↓wrA_t, ↓ixA_t, ↓wrF_d, ↓bd2_s, ↓bd1_s, ↓bnd_d, ↓iww_t, ↓iww_f, ↓iwl_t, ↓iwl_f, ↓ilw_t, ↓ilw_f, ↓eww_t, ↓eww_f, ↓ewl_t, ↓ewl_f, ↓ez_t, ↓ez_f, ↓il_t, ↓il_f, il_t, il_f, ez_t, ez_f, if_true, if_false, upS_h, upS_o, upS_i, Int.reduceAdd, Int.reduceSub, Int.reduceMul, Int.reduceNeg, wI_id]
  · have e := h.2 (k + 1) 0 (by omega) (by omega) (by omega) (by omega)
    rw [Int.add_zero, Int.add_zero] at e
    simp (disch := omega) only [↓rdA_t, ↓wrA_t, ↓ixA_t, ↓wrF_d, ↓bd2_s, ↓bd1_s, ↓bnd_d, ↓iww_t, ↓iww_f, ↓iwl_t, ↓iwl_f, ↓ilw_t, ↓ilw_f, ↓eww_t, ↓eww_f, ↓ewl_t, ↓ewl_f, ↓ez_t, ↓ez_f, ↓il_t, ↓il_f, il_t, il_f, ez_t, ez_f, if_true, if_false, upS_h, upS_o, upS_i, Int.reduceAdd, Int.reduceSub, Int.reduceMul, Int.reduceNeg, wI_id, e]
def rTar (α : St) (k a : Int) : Int := if 0 ≤ k ∧ k < α 0 1 then (if 0 ≤ a ∧ a ≤ 2 then α (7 + a) k else if a = 3 then tL α k else if a = 4 then tR α k else -2) else -2
def aTar (α : St) (k a : Int) : St := if (0 ≤ k ∧ k < α 0 1) ∧ 0 ≤ a ∧ a ≤ 4 then α else aR α 3
theorem xc_target {σ α : St} {k a : Int} (h : IC σ α) (hw : WF α) (hk : inR k) (ha : inR a) : oC (f_X9_target σ k a) σ α (rTar α k a) (aTar α k a) := by
  have hk' := hk
  unfold inR at hk ha
  have hn := hw.2.1.2.1
  unfold f_X9_target rTar aTar
  rw [c_isT h.2.1 hw.2.1 hk']
  by_cases c : 0 ≤ k ∧ k < α 0 1
  · obtain ⟨e1, e2, e3⟩ := h.2.1.2 k c.1 c.2
    have e4 := c_tL h.2.1 hw.2.1 c.1 c.2
    have e5 := c_tR h.2.1 hw.2.1 c.1 c.2
    by_cases c2 : 0 ≤ a ∧ a ≤ 4
    · have : a = 0 ∨ a = 1 ∨ a = 2 ∨ a = 3 ∨ a = 4 := by omega
      rw [if_pos (show (0 ≤ k ∧ k < α 0 1) ∧ 0 ≤ a ∧ a ≤ 4 from ⟨c, c2⟩)]
      rcases this with rfl | rfl | rfl | rfl | rfl <;> (simp (disch := omega) only [↓rdA_t, ↓wrA_t, ↓ixA_t, ↓wrF_d, ↓bd2_s, ↓bd1_s, ↓bnd_d, ↓iww_t, ↓iww_f, ↓iwl_t, ↓iwl_f, ↓ilw_t, ↓ilw_f, ↓eww_t, ↓eww_f, ↓ewl_t, ↓ewl_f, ↓ez_t, ↓ez_f, ↓il_t, ↓il_f, il_t, il_f, ez_t, ez_f, if_true, if_false, upS_h, upS_o, upS_i, Int.reduceAdd, Int.reduceSub, Int.reduceMul, Int.reduceNeg, wI_id, if_pos c, e4, e5]; exact ⟨σ, by simp [e1, e2, e3], h, fun _ _ => rfl⟩)
    · rw [if_neg (show ¬ ((0 ≤ k ∧ k < α 0 1) ∧ 0 ≤ a ∧ a ≤ 4) from fun z => c2 z.2)]
      simp (disch := omega) only [↓rdA_t, ↓wrA_t, ↓ixA_t, ↓wrF_d, ↓bd2_s, ↓bd1_s, ↓bnd_d, ↓iww_t, ↓iww_f, ↓iwl_t, ↓iwl_f, ↓ilw_t, ↓ilw_f, ↓eww_t, ↓eww_f, ↓ewl_t, ↓ewl_f, ↓ez_t, ↓ez_f, ↓il_t, ↓il_f, il_t, il_f, ez_t, ez_f, if_true, if_false, upS_h, upS_o, upS_i, Int.reduceAdd, Int.reduceSub, Int.reduceMul, Int.reduceNeg, wI_id, if_pos c]
      rw [if_neg (by omega)]
      exact oC_id (oC_bad h)
  · rw [if_neg (show ¬ ((0 ≤ k ∧ k < α 0 1) ∧ 0 ≤ a ∧ a ≤ 4) from fun z => c z.1)]
    simp (disch := omega) only [↓rdA_t, ↓wrA_t, ↓ixA_t, ↓wrF_d, ↓bd2_s, ↓bd1_s, ↓bnd_d, ↓iww_t, ↓iww_f, ↓iwl_t, ↓iwl_f, ↓ilw_t, ↓ilw_f, ↓eww_t, ↓eww_f, ↓ewl_t, ↓ewl_f, ↓ez_t, ↓ez_f, ↓il_t, ↓il_f, il_t, il_f, ez_t, ez_f, if_true, if_false, upS_h, upS_o, upS_i, Int.reduceAdd, Int.reduceSub, Int.reduceMul, Int.reduceNeg, wI_id, if_neg c]
    exact oC_id (oC_bad h)
theorem xm_target {σ α : St} {k a : Int} (h : IM σ α) (hw : WF α) (hk : inR k) (ha : inR a) : oM (f_X10_target σ k a) σ α (rTar α k a) (aTar α k a) := by
  have hk' := hk
  unfold inR at hk ha
  have hn := hw.2.1.2.1
  unfold f_X10_target rTar aTar
  rw [m_isT h.2.1 hw.2.1 hk']
  by_cases c : 0 ≤ k ∧ k < α 0 1
  · have e4 := m_tL h.2.1 hw.2.1 c.1 c.2
    have e5 := m_tR h.2.1 hw.2.1 c.1 c.2
    by_cases c2 : 0 ≤ a ∧ a ≤ 4
    · rw [if_pos (show (0 ≤ k ∧ k < α 0 1) ∧ 0 ≤ a ∧ a ≤ 4 from ⟨c, c2⟩), if_pos c, if_pos c]
      by_cases c3 : a ≤ 2
      · have e := h.2.1.2 k a c.1 c.2 c2.1 (by omega)
        rw [if_pos (show 0 ≤ a ∧ a ≤ 2 by omega)]
        simp (disch := omega) only [↓rdA_t, ↓wrA_t, ↓ixA_t, ↓wrF_d, ↓bd2_s, ↓bd1_s, ↓bnd_d, ↓iww_t, ↓iww_f, ↓iwl_t, ↓iwl_f, ↓ilw_t, ↓ilw_f, ↓eww_t, ↓eww_f, ↓ewl_t, ↓ewl_f, ↓ez_t, ↓ez_f, ↓il_t, ↓il_f, il_t, il_f, ez_t, ez_f, if_true, if_false, upS_h, upS_o, upS_i, Int.reduceAdd, Int.reduceSub, Int.reduceMul, Int.reduceNeg, wI_id, in_t, e]
        exact oM_ret _ h
      · rw [if_neg (show ¬ (0 ≤ a ∧ a ≤ 2) by omega)]
        by_cases c4 : a = 3
        · simp (disch := omega) only [↓rdA_t, ↓wrA_t, ↓ixA_t, ↓wrF_d, ↓bd2_s, ↓bd1_s, ↓bnd_d, ↓iww_t, ↓iww_f, ↓iwl_t, ↓iwl_f, ↓ilw_t, ↓ilw_f, ↓eww_t, ↓eww_f, ↓ewl_t, ↓ewl_f, ↓ez_t, ↓ez_f, ↓il_t, ↓il_f, il_t, il_f, ez_t, ez_f, if_true, if_false, upS_h, upS_o, upS_i, Int.reduceAdd, Int.reduceSub, Int.reduceMul, Int.reduceNeg, wI_id, in_t, e4]
          exact oM_ret _ h
        · simp (disch := omega) only [↓rdA_t, ↓wrA_t, ↓ixA_t, ↓wrF_d, ↓bd2_s, ↓bd1_s, ↓bnd_d, ↓iww_t, ↓iww_f, ↓iwl_t, ↓iwl_f, ↓ilw_t, ↓ilw_f, ↓eww_t, ↓eww_f, ↓ewl_t, ↓ewl_f, ↓ez_t, ↓ez_f, ↓il_t, ↓il_f, il_t, il_f, ez_t, ez_f, if_true, if_false, upS_h, upS_o, upS_i, Int.reduceAdd, Int.reduceSub, Int.reduceMul, Int.reduceNeg, wI_id, in_t, e5]
          exact oM_ret _ h
    · rw [if_neg (show ¬ ((0 ≤ k ∧ k < α 0 1) ∧ 0 ≤ a ∧ a ≤ 4) from fun z => c2 z.2), if_pos c, if_pos c, if_neg (show ¬ (0 ≤ a ∧ a ≤ 2) by omega)]
      simp (disch := omega) only [↓rdA_t, ↓wrA_t, ↓ixA_t, ↓wrF_d, ↓bd2_s, ↓bd1_s, ↓bnd_d, ↓iww_t, ↓iww_f, ↓iwl_t, ↓iwl_f, ↓ilw_t, ↓ilw_f, ↓eww_t, ↓eww_f, ↓ewl_t, ↓ewl_f, ↓ez_t, ↓ez_f, ↓il_t, ↓il_f, il_t, il_f, ez_t, ez_f, if_true, if_false, upS_h, upS_o, upS_i, Int.reduceAdd, Int.reduceSub, Int.reduceMul, Int.reduceNeg, wI_id, in_f]
      exact oM_id (oM_bad (-2) h)
  · rw [if_neg (show ¬ ((0 ≤ k ∧ k < α 0 1) ∧ 0 ≤ a ∧ a ≤ 4) from fun z => c z.1), if_neg c, if_neg c]
    simp (disch := omega) only [↓rdA_t, ↓wrA_t, ↓ixA_t, ↓wrF_d, ↓bd2_s, ↓bd1_s, ↓bnd_d, ↓iww_t, ↓iww_f, ↓iwl_t, ↓iwl_f, ↓ilw_t, ↓ilw_f, ↓eww_t, ↓eww_f, ↓ewl_t, ↓ewl_f, ↓ez_t, ↓ez_f, ↓il_t, ↓il_f, il_t, il_f, ez_t, ez_f, if_true, if_false, upS_h, upS_o, upS_i, Int.reduceAdd, Int.reduceSub, Int.reduceMul, Int.reduceNeg, wI_id]
    exact oM_id (oM_bad (-2) h)
theorem wf_target {α : St} {k a : Int} (hw : WF α) : WF (aTar α k a) := by
  unfold aTar
  by_cases c : (0 ≤ k ∧ k < α 0 1) ∧ 0 ≤ a ∧ a ≤ 4
  · rw [if_pos c]; exact hw
  · rw [if_neg c]; exact WF_aR 3 (by omega) hw
/-! ===== the walk down the tree ===== -/
def yes (α : St) (i l r p d : Int) : Int := if α 12 i = 1 then (if l = α 13 i then 1 else 0) else if α 12 i = 2 then (if r = α 13 i then 1 else 0) else if α 12 i = 3 then (if α 13 i < p then 1 else 0) else (if α 13 i < d then 1 else 0)
theorem yes_r {α : St} {i l r p d : Int} : yes α i l r p d = 0 ∨ yes α i l r p d = 1 := by
  unfold yes
  by_cases c1 : α 12 i = 1
  · rw [if_pos c1]; by_cases c : l = α 13 i
    · rw [if_pos c]; omega
    · rw [if_neg c]; omega
  · rw [if_neg c1]
    by_cases c2 : α 12 i = 2
    · rw [if_pos c2]; by_cases c : r = α 13 i
      · rw [if_pos c]; omega
      · rw [if_neg c]; omega
    · rw [if_neg c2]
      by_cases c3 : α 12 i = 3
      · rw [if_pos c3]; by_cases c : α 13 i < p
        · rw [if_pos c]; omega
        · rw [if_neg c]; omega
      · rw [if_neg c3]; by_cases c : α 13 i < d
        · rw [if_pos c]; omega
        · rw [if_neg c]; omega
def kid (α : St) (i l r p d : Int) : Int := if yes α i l r p d = 0 then α 15 i else α 14 i
/-- the node after at most n steps from i -/
def wk (α : St) (l r p d : Int) : Nat → Int → Int
  | 0, i => i
  | n + 1, i => if α 12 i = 0 then i else wk α l r p d n (kid α i l r p d)
theorem kid_p {α : St} {i l r p d : Int} (hw : wT α) (h0 : 0 ≤ i) (h1 : i < α 0 7) (h2 : ¬ α 12 i = 0) : i < kid α i l r p d ∧ kid α i l r p d < α 0 7 ∧ α 16 (kid α i l r p d) = i ∧ α 17 (kid α i l r p d) = α 17 i + 1 := by
  have k := (hw.2.2.2.2.2 i h0 h1).2.2.2 h2
  unfold kid
  by_cases c : yes α i l r p d = 0
  · rw [if_pos c]; exact ⟨k.2.2.1.1, k.2.2.1.2, k.2.2.2.2.2.1, k.2.2.2.2.2.2.2⟩
  · rw [if_neg c]; exact ⟨k.2.1.1, k.2.1.2, k.2.2.2.2.1, k.2.2.2.2.2.2.1⟩
theorem deep_leaf {α : St} {i : Int} (hw : wT α) (h0 : 0 ≤ i) (h1 : i < α 0 7) (h2 : α 17 i = 7) : α 12 i = 0 := by
  by_cases c : α 12 i = 0
  · exact c
  · have k := (hw.2.2.2.2.2 i h0 h1).2.2.2 c
    have k2 := (hw.2.2.2.2.2 (α 14 i) (by omega) k.2.1.2).2.1
    omega
theorem wk_p {α : St} {l r p d : Int} (hw : wT α) : ∀ (n : Nat) (i : Int), 0 ≤ i → i < α 0 7 → α 17 i + n = 7 → 0 ≤ wk α l r p d n i ∧ wk α l r p d n i < α 0 7 ∧ α 12 (wk α l r p d n i) = 0 := by
  intro n
  induction n with
  | zero => intro i h0 h1 h2; rw [wk]; exact ⟨h0, h1, deep_leaf hw h0 h1 (by omega)⟩
  | succ n ih =>
    intro i h0 h1 h2
    rw [wk]
    by_cases c : α 12 i = 0
    · rw [if_pos c]; exact ⟨h0, h1, c⟩
    · rw [if_neg c]
      have k := kid_p (l := l) (r := r) (p := p) (d := d) hw h0 h1 c
      exact ih _ (by omega) k.2.1 (by omega)
theorem ltC_42 {q : Int} (h : 0 ≤ q ∧ q ≤ 4) : (ltC q = 42 ∧ q = 0) ∨ (ltC q = 76 ∧ q = 1) ∨ (ltC q = 82 ∧ q = 2) ∨ (ltC q = 80 ∧ q = 3) ∨ (ltC q = 68 ∧ q = 4) := by
  have : q = 0 ∨ q = 1 ∨ q = 2 ∨ q = 3 ∨ q = 4 := by omega
  rcases this with rfl | rfl | rfl | rfl | rfl <;> decide
theorem c_yes {σ α : St} {i l r p d : Int} (h : cT σ α) (hw : wT α) (h0 : 0 ≤ i) (h1 : i < α 0 7) (h2 : ¬ α 12 i = 0) (hl : inR l) (hr : inR r) (hp : inR p) (hd : inR d) : f_X7_saysYes σ 14 i l r p d = some (yes α i l r p d) := by
  unfold inR at hl hr hp hd
  have w1 := hw.1
  obtain ⟨k1, k2, k3, k4⟩ := hw.2.2.2.2.2 i h0 h1
  obtain ⟨a1, a2, a3, a4⟩ := h.2.2.2 i h0 h1
  have k5 := (k4 h2).1
  have a5 := (a3 h2).1
  unfold f_X7_saysYes yes
  rcases ltC_42 k1 with ⟨e, e'⟩ | ⟨e, e'⟩ | ⟨e, e'⟩ | ⟨e, e'⟩ | ⟨e, e'⟩
  · omega
  all_goals (simp (disch := omega) only [↓rdA_t, ↓wrA_t, ↓ixA_t, ↓wrF_d, ↓bd2_s, ↓bd1_s, ↓bnd_d, ↓iww_t, ↓iww_f, ↓iwl_t, ↓iwl_f, ↓ilw_t, ↓ilw_f, ↓eww_t, ↓eww_f, ↓ewl_t, ↓ewl_f, ↓ez_t, ↓ez_f, ↓il_t, ↓il_f, il_t, il_f, ez_t, ez_f, if_true, if_false, upS_h, upS_o, upS_i, Int.reduceAdd, Int.reduceSub, Int.reduceMul, Int.reduceNeg, wI_id, a1, a5, e])
theorem m_yes {σ α : St} {i l r p d : Int} (h : mT σ α) (hw : wT α) (h0 : 0 ≤ i) (h1 : i < α 0 7) (h2 : ¬ α 12 i = 0) (hl : inR l) (hr : inR r) (hp : inR p) (hd : inR d) : f_X10_answers σ i l r p d = some (yes α i l r p d) := by
  unfold inR at hl hr hp hd
  have w1 := hw.1
  obtain ⟨k1, k2, k3, k4⟩ := hw.2.2.2.2.2 i h0 h1
  obtain ⟨a1, a2, a3⟩ := h.2.2 i h0 h1
  have k5 := (k4 h2).1
  unfold f_X10_answers yes
  rcases ltC_42 k1 with ⟨e, e'⟩ | ⟨e, e'⟩ | ⟨e, e'⟩ | ⟨e, e'⟩ | ⟨e, e'⟩
  · omega
  all_goals (simp (disch := omega) only [↓rdA_t, ↓wrA_t, ↓ixA_t, ↓wrF_d, ↓bd2_s, ↓bd1_s, ↓bnd_d, ↓iww_t, ↓iww_f, ↓iwl_t, ↓iwl_f, ↓ilw_t, ↓ilw_f, ↓eww_t, ↓eww_f, ↓ewl_t, ↓ewl_f, ↓ez_t, ↓ez_f, ↓il_t, ↓il_f, il_t, il_f, ez_t, ez_f, if_true, if_false, upS_h, upS_o, upS_i, Int.reduceAdd, Int.reduceSub, Int.reduceMul, Int.reduceNeg, wI_id, a1, a2, e'])
theorem c_leafFor_g {σ α : St} {l r p d : Int} (kx : Int → Option Int) (h : cT σ α) (hw : wT α) (hl : inR l) (hr : inR r) (hp : inR p) (hd : inR d) : ∀ (m : Nat) (i x : Int) (n : Nat), 0 ≤ i → i < α 0 7 → α 17 i = x → x + m = 7 → m < n → lp_X7_leafFor_6 σ 14 l r p d kx n i x = kx (wk α l r p d m i) := by
  have w1 := hw.1
  have hs := h.1
  intro m
  induction m with
  | zero =>
    intro i x n h0 h1 h2 h3 hn
    obtain ⟨n, rfl⟩ : ∃ k, n = k + 1 := ⟨n - 1, by omega⟩
    rw [lp_X7_leafFor_6, wk]
    simp (disch := omega) only [↓rdA_t, ↓wrA_t, ↓ixA_t, ↓wrF_d, ↓bd2_s, ↓bd1_s, ↓bnd_d, ↓iww_t, ↓iww_f, ↓iwl_t, ↓iwl_f, ↓ilw_t, ↓ilw_f, ↓eww_t, ↓eww_f, ↓ewl_t, ↓ewl_f, ↓ez_t, ↓ez_f, ↓il_t, ↓il_f, il_t, il_f, ez_t, ez_f, if_true, if_false, upS_h, upS_o, upS_i, Int.reduceAdd, Int.reduceSub, Int.reduceMul, Int.reduceNeg, wI_id]
  | succ m ih =>
    intro i x n h0 h1 h2 h3 hn
    obtain ⟨n, rfl⟩ : ∃ k, n = k + 1 := ⟨n - 1, by omega⟩
    obtain ⟨k1, k2, k3, k4⟩ := hw.2.2.2.2.2 i h0 h1
    obtain ⟨a1, a2, a3, a4⟩ := h.2.2.2 i h0 h1
    rw [lp_X7_leafFor_6, wk]
    by_cases c : α 12 i = 0
    · have e : ltC (α 12 i) = 42 := by rw [c]; rfl
      simp (disch := omega) only [↓rdA_t, ↓wrA_t, ↓ixA_t, ↓wrF_d, ↓bd2_s, ↓bd1_s, ↓bnd_d, ↓iww_t, ↓iww_f, ↓iwl_t, ↓iwl_f, ↓ilw_t, ↓ilw_f, ↓eww_t, ↓eww_f, ↓ewl_t, ↓ewl_f, ↓ez_t, ↓ez_f, ↓il_t, ↓il_f, il_t, il_f, ez_t, ez_f, if_true, if_false, upS_h, upS_o, upS_i, Int.reduceAdd, Int.reduceSub, Int.reduceMul, Int.reduceNeg, wI_id, a1, e]
    · have e : ¬ ltC (α 12 i) = 42 := by
        intro z
        rcases ltC_42 k1 with ⟨_, e'⟩ | ⟨e, e'⟩ | ⟨e, e'⟩ | ⟨e, e'⟩ | ⟨e, e'⟩ <;> omega
      have e2 : -2147483648 ≤ ltC (α 12 i) ∧ ltC (α 12 i) ≤ 2147483647 := by
        rcases ltC_42 k1 with ⟨e, e'⟩ | ⟨e, e'⟩ | ⟨e, e'⟩ | ⟨e, e'⟩ | ⟨e, e'⟩ <;> omega
      have k := kid_p (l := l) (r := r) (p := p) (d := d) hw h0 h1 c
      have g := ih (kid α i l r p d) (x + 1) n (by omega) k.2.1 (by omega) (by omega) (by omega)
      rw [if_neg c, ← g]
      unfold jn_X7_leafFor_56 f_X7_isNode
      unfold kid at k ⊢
      by_cases c2 : yes α i l r p d = 0
      · rw [if_pos c2] at k ⊢
        simp (disch := omega) only [↓rdA_t, ↓wrA_t, ↓ixA_t, ↓wrF_d, ↓bd2_s, ↓bd1_s, ↓bnd_d, ↓iww_t, ↓iww_f, ↓iwl_t, ↓iwl_f, ↓ilw_t, ↓ilw_f, ↓eww_t, ↓eww_f, ↓ewl_t, ↓ewl_f, ↓ez_t, ↓ez_f, ↓il_t, ↓il_f, il_t, il_f, ez_t, ez_f, if_true, if_false, upS_h, upS_o, upS_i, Int.reduceAdd, Int.reduceSub, Int.reduceMul, Int.reduceNeg, wI_id, a1, c_yes h hw h0 h1 c hl hr hp hd, (a3 c).2.2]
      · rw [if_neg c2] at k ⊢
        simp (disch := omega) only [↓rdA_t, ↓wrA_t, ↓ixA_t, ↓wrF_d, ↓bd2_s, ↓bd1_s, ↓bnd_d, ↓iww_t, ↓iww_f, ↓iwl_t, ↓iwl_f, ↓ilw_t, ↓ilw_f, ↓eww_t, ↓eww_f, ↓ewl_t, ↓ewl_f, ↓ez_t, ↓ez_f, ↓il_t, ↓il_f, il_t, il_f, ez_t, ez_f, if_true, if_false, upS_h, upS_o, upS_i, Int.reduceAdd, Int.reduceSub, Int.reduceMul, Int.reduceNeg, wI_id, a1, c_yes h hw h0 h1 c hl hr hp hd, (a3 c).2.1]
theorem c_leafFor {σ α : St} {l r p d : Int} (h : cT σ α) (hw : wT α) (hl : inR l) (hr : inR r) (hp : inR p) (hd : inR d) : f_X7_leafFor σ 14 l r p d = some (wk α l r p d 7 0) := by
  unfold f_X7_leafFor
  exact c_leafFor_g _ h hw hl hr hp hd 7 0 0 1000 (by omega) (by have := hw.1; omega) hw.2.2.2.2.1 (by omega) (by omega)
def lfU (α : St) (u : Int) : Int := wk α (α 2 u) (α 3 u) (α 4 u) (α 5 u) 7 0
def lfT (α : St) (k : Int) : Int := wk α (tL α k) (tR α k) (α 8 k) (α 9 k) 7 0
theorem lfU_p {α : St} {u : Int} (hw : wT α) : 0 ≤ lfU α u ∧ lfU α u < α 0 7 ∧ α 12 (lfU α u) = 0 := wk_p hw 7 0 (by omega) (by have := hw.1; omega) (by have := hw.2.2.2.2.1; omega)
theorem lfT_p {α : St} {k : Int} (hw : wT α) : 0 ≤ lfT α k ∧ lfT α k < α 0 7 ∧ α 12 (lfT α k) = 0 := wk_p hw 7 0 (by omega) (by have := hw.1; omega) (by have := hw.2.2.2.2.1; omega)
theorem c_lfU {σ α : St} {u : Int} (h : IC σ α) (hw : WF α) (h0 : 0 ≤ u) (h1 : u < α 0 0) : f_X2_leafOfUnit σ u = some (lfU α u) := by
  have w := hw.1.2.1
  obtain ⟨k1, k2, k3, k4, k5, k6⟩ := hw.1.2.2 u h0 h1
  obtain ⟨e1, e2, e3, e4, e5, e6, e7⟩ := h.1.2.1 u h0 h1
  have e := c_leafFor (l := α 2 u) (r := α 3 u) (p := α 4 u) (d := α 5 u) h.2.2.2.2 hw.2.2.2.2 (by unfold inR; omega) (by unfold inR; omega) (by unfold inR; omega) (by unfold inR; omega)
  unfold f_X2_leafOfUnit lfU
  simp (disch := omega) only [↓rdA_t, ↓wrA_t, ↓ixA_t, ↓wrF_d, ↓bd2_s, ↓bd1_s, ↓bnd_d, ↓iww_t, ↓iww_f, ↓iwl_t, ↓iwl_f, ↓ilw_t, ↓ilw_f, ↓eww_t, ↓eww_f, ↓ewl_t, ↓ewl_f, ↓ez_t, ↓ez_f, ↓il_t, ↓il_f, il_t, il_f, ez_t, ez_f, if_true, if_false, upS_h, upS_o, upS_i, Int.reduceAdd, Int.reduceSub, Int.reduceMul, Int.reduceNeg, wI_id, e2, e3, e4, e5, e]
theorem c_lfT {σ α : St} {k : Int} (h : IC σ α) (hw : WF α) (h0 : 0 ≤ k) (h1 : k < α 0 1) : f_X2_leafOfTarget σ k = some (lfT α k) := by
  have w := hw.2.1.2.1
  obtain ⟨k1, k2, k3⟩ := hw.2.1.2.2 k h0 h1
  obtain ⟨e1, e2, e3⟩ := h.2.1.2 k h0 h1
  have r1 := tL_r hw.2.1 h0 h1
  have r2 := tR_r hw.2.1 h0 h1
  have e := c_leafFor (l := tL α k) (r := tR α k) (p := α 8 k) (d := α 9 k) h.2.2.2.2 hw.2.2.2.2 (by unfold inR; omega) (by unfold inR; omega) (by unfold inR; omega) (by unfold inR; omega)
  unfold f_X2_leafOfTarget lfT
  simp (disch := omega) only [↓rdA_t, ↓wrA_t, ↓ixA_t, ↓wrF_d, ↓bd2_s, ↓bd1_s, ↓bnd_d, ↓iww_t, ↓iww_f, ↓iwl_t, ↓iwl_f, ↓ilw_t, ↓ilw_f, ↓eww_t, ↓eww_f, ↓ewl_t, ↓ewl_f, ↓ez_t, ↓ez_f, ↓il_t, ↓il_f, il_t, il_f, ez_t, ez_f, if_true, if_false, upS_h, upS_o, upS_i, Int.reduceAdd, Int.reduceSub, Int.reduceMul, Int.reduceNeg, wI_id, c_tL h.2.1 hw.2.1 h0 h1, c_tR h.2.1 hw.2.1 h0 h1, e2, e3, e]
theorem c_num {σ α : St} {i : Int} (h : cT σ α) (hw : wT α) (h0 : 0 ≤ i) (h1 : i < α 0 7) (h2 : α 12 i = 0) : f_X7_numberOf σ 14 i = some (α 13 i) := by
  have w := hw.1
  have hs := h.1
  obtain ⟨a1, a2, a3, a4⟩ := h.2.2.2 i h0 h1
  have a5 := a4 h2
  unfold f_X7_numberOf f_X7_isNode
  simp (disch := omega) only [↓rdA_t, ↓wrA_t, ↓ixA_t, ↓wrF_d, ↓bd2_s, ↓bd1_s, ↓bnd_d, ↓iww_t, ↓iww_f, ↓iwl_t, ↓iwl_f, ↓ilw_t, ↓ilw_f, ↓eww_t, ↓eww_f, ↓ewl_t, ↓ewl_f, ↓ez_t, ↓ez_f, ↓il_t, ↓il_f, il_t, il_f, ez_t, ez_f, if_true, if_false, upS_h, upS_o, upS_i, Int.reduceAdd, Int.reduceSub, Int.reduceMul, Int.reduceNeg, wI_id, a5]
theorem m_uAns {σ α : St} {i u : Int} (h : JM σ α) (hw : WF α) (h0 : 0 ≤ i) (h1 : i < α 0 7) (h2 : ¬ α 12 i = 0) (h3 : 0 ≤ u) (h4 : u < α 0 0) : f_X10_unitAnswers σ i u = some (yes α i (α 2 u) (α 3 u) (α 4 u) (α 5 u)) := by
  obtain ⟨k1, k2, k3, k4, k5, k6⟩ := hw.1.2.2 u h3 h4
  have e1 := m_at h.1 hw.1 (w := 1) h3 h4 (by omega) (by omega)
  have e2 := m_at h.1 hw.1 (w := 2) h3 h4 (by omega) (by omega)
  have e3 := m_at h.1 hw.1 (w := 3) h3 h4 (by omega) (by omega)
  have e4 := m_at h.1 hw.1 (w := 4) h3 h4 (by omega) (by omega)
  simp only [Int.reduceAdd] at e1 e2 e3 e4
  have e := m_yes (l := α 2 u) (r := α 3 u) (p := α 4 u) (d := α 5 u) h.2.2.2.2 hw.2.2.2.2 h0 h1 h2 (by unfold inR; omega) (by unfold inR; omega) (by unfold inR; omega) (by unfold inR; omega)
  unfold f_X10_unitAnswers
  simp (disch := omega) only [↓rdA_t, ↓wrA_t, ↓ixA_t, ↓wrF_d, ↓bd2_s, ↓bd1_s, ↓bnd_d, ↓iww_t, ↓iww_f, ↓iwl_t, ↓iwl_f, ↓ilw_t, ↓ilw_f, ↓eww_t, ↓eww_f, ↓ewl_t, ↓ewl_f, ↓ez_t, ↓ez_f, ↓il_t, ↓il_f, il_t, il_f, ez_t, ez_f, if_true, if_false, upS_h, upS_o, upS_i, Int.reduceAdd, Int.reduceSub, Int.reduceMul, Int.reduceNeg, wI_id, e1, e2, e3, e4, e]
theorem m_tAns {σ α : St} {i k : Int} (h : JM σ α) (hw : WF α) (h0 : 0 ≤ i) (h1 : i < α 0 7) (h2 : ¬ α 12 i = 0) (h3 : 0 ≤ k) (h4 : k < α 0 1) : f_X10_targetAnswers σ i k = some (yes α i (tL α k) (tR α k) (α 8 k) (α 9 k)) := by
  have w := hw.2.1.2.1
  obtain ⟨k1, k2, k3⟩ := hw.2.1.2.2 k h3 h4
  have e1 := h.2.1.2 k 1 h3 h4 (by omega) (by omega)
  have e2 := h.2.1.2 k 2 h3 h4 (by omega) (by omega)
  simp only [Int.reduceAdd] at e1 e2
  have r1 := tL_r hw.2.1 h3 h4
  have r2 := tR_r hw.2.1 h3 h4
  have e := m_yes (l := tL α k) (r := tR α k) (p := α 8 k) (d := α 9 k) h.2.2.2.2 hw.2.2.2.2 h0 h1 h2 (by unfold inR; omega) (by unfold inR; omega) (by unfold inR; omega) (by unfold inR; omega)
  unfold f_X10_targetAnswers
  simp (disch := omega) only [↓rdA_t, ↓wrA_t, ↓ixA_t, ↓wrF_d, ↓bd2_s, ↓bd1_s, ↓bnd_d, ↓iww_t, ↓iww_f, ↓iwl_t, ↓iwl_f, ↓ilw_t, ↓ilw_f, ↓eww_t, ↓eww_f, ↓ewl_t, ↓ewl_f, ↓ez_t, ↓ez_f, ↓il_t, ↓il_f, il_t, il_f, ez_t, ez_f, if_true, if_false, upS_h, upS_o, upS_i, Int.reduceAdd, Int.reduceSub, Int.reduceMul, Int.reduceNeg, wI_id, m_tL h.2.1 hw.2.1 h3 h4, m_tR h.2.1 hw.2.1 h3 h4, e1, e2, e]
theorem m_leaf_gU {σ α : St} {u : Int} (kx : Int → Option Int) (h : JM σ α) (hw : WF α) (h3 : 0 ≤ u) (h4 : u < α 0 0) : ∀ (m : Nat) (i : Int) (n : Nat), 0 ≤ i → i < α 0 7 → α 17 i + m = 7 → m < n → lp_X10_leafOf_2 σ 1 u kx n i = kx (wk α (α 2 u) (α 3 u) (α 4 u) (α 5 u) m i) := by
  have w1 := hw.2.2.2.2.1
  intro m
  induction m with
  | zero =>
    intro i n h0 h1 h2 hn
    obtain ⟨n, rfl⟩ : ∃ k, n = k + 1 := ⟨n - 1, by omega⟩
    obtain ⟨a1, a2, a3⟩ := h.2.2.2.2.2.2 i h0 h1
    have c := deep_leaf hw.2.2.2.2 h0 h1 (by omega)
    rw [lp_X10_leafOf_2, wk]
    simp (disch := omega) only [↓rdA_t, ↓wrA_t, ↓ixA_t, ↓wrF_d, ↓bd2_s, ↓bd1_s, ↓bnd_d, ↓iww_t, ↓iww_f, ↓iwl_t, ↓iwl_f, ↓ilw_t, ↓ilw_f, ↓eww_t, ↓eww_f, ↓ewl_t, ↓ewl_f, ↓ez_t, ↓ez_f, ↓il_t, ↓il_f, il_t, il_f, ez_t, ez_f, if_true, if_false, upS_h, upS_o, upS_i, Int.reduceAdd, Int.reduceSub, Int.reduceMul, Int.reduceNeg, wI_id, a1, c]
  | succ m ih =>
    intro i n h0 h1 h2 hn
    obtain ⟨n, rfl⟩ : ∃ k, n = k + 1 := ⟨n - 1, by omega⟩
    obtain ⟨a1, a2, a3⟩ := h.2.2.2.2.2.2 i h0 h1
    have k1 := (hw.2.2.2.2.2.2.2.2.2 i h0 h1).1
    rw [lp_X10_leafOf_2, wk]
    by_cases c : α 12 i = 0
    · simp (disch := omega) only [↓rdA_t, ↓wrA_t, ↓ixA_t, ↓wrF_d, ↓bd2_s, ↓bd1_s, ↓bnd_d, ↓iww_t, ↓iww_f, ↓iwl_t, ↓iwl_f, ↓ilw_t, ↓ilw_f, ↓eww_t, ↓eww_f, ↓ewl_t, ↓ewl_f, ↓ez_t, ↓ez_f, ↓il_t, ↓il_f, il_t, il_f, ez_t, ez_f, if_true, if_false, upS_h, upS_o, upS_i, Int.reduceAdd, Int.reduceSub, Int.reduceMul, Int.reduceNeg, wI_id, a1, c]
    · have k := kid_p (l := α 2 u) (r := α 3 u) (p := α 4 u) (d := α 5 u) hw.2.2.2.2 h0 h1 c
      have g := ih (kid α i (α 2 u) (α 3 u) (α 4 u) (α 5 u)) n (by omega) k.2.1 (by omega) (by omega)
      rw [if_neg c, ← g]
      unfold jn_X10_leafOf_30
      unfold kid at k ⊢
      by_cases c2 : yes α i (α 2 u) (α 3 u) (α 4 u) (α 5 u) = 0
      · rw [if_pos c2] at k ⊢
        simp (disch := omega) only [↓rdA_t, ↓wrA_t, ↓ixA_t, ↓wrF_d, ↓bd2_s, ↓bd1_s, ↓bnd_d, ↓iww_t, ↓iww_f, ↓iwl_t, ↓iwl_f, ↓ilw_t, ↓ilw_f, ↓eww_t, ↓eww_f, ↓ewl_t, ↓ewl_f, ↓ez_t, ↓ez_f, ↓il_t, ↓il_f, il_t, il_f, ez_t, ez_f, if_true, if_false, upS_h, upS_o, upS_i, Int.reduceAdd, Int.reduceSub, Int.reduceMul, Int.reduceNeg, wI_id, a1, m_uAns h hw h0 h1 c h3 h4, (a3 c).2]
      · rw [if_neg c2] at k ⊢
        have c3 : yes α i (α 2 u) (α 3 u) (α 4 u) (α 5 u) = 1 := by have := yes_r (α := α) (i := i) (l := α 2 u) (r := α 3 u) (p := α 4 u) (d := α 5 u); omega
        simp (disch := omega) only [↓rdA_t, ↓wrA_t, ↓ixA_t, ↓wrF_d, ↓bd2_s, ↓bd1_s, ↓bnd_d, ↓iww_t, ↓iww_f, ↓iwl_t, ↓iwl_f, ↓ilw_t, ↓ilw_f, ↓eww_t, ↓eww_f, ↓ewl_t, ↓ewl_f, ↓ez_t, ↓ez_f, ↓il_t, ↓il_f, il_t, il_f, ez_t, ez_f, if_true, if_false, upS_h, upS_o, upS_i, Int.reduceAdd, Int.reduceSub, Int.reduceMul, Int.reduceNeg, wI_id, a1, m_uAns h hw h0 h1 c h3 h4, c3, (a3 c).1]
theorem m_leaf_gT {σ α : St} {q : Int} (kx : Int → Option Int) (h : JM σ α) (hw : WF α) (h3 : 0 ≤ q) (h4 : q < α 0 1) : ∀ (m : Nat) (i : Int) (n : Nat), 0 ≤ i → i < α 0 7 → α 17 i + m = 7 → m < n → lp_X10_leafOf_2 σ 0 q kx n i = kx (wk α (tL α q) (tR α q) (α 8 q) (α 9 q) m i) := by
  have w1 := hw.2.2.2.2.1
  intro m
  induction m with
  | zero =>
    intro i n h0 h1 h2 hn
    obtain ⟨n, rfl⟩ : ∃ k, n = k + 1 := ⟨n - 1, by omega⟩
    obtain ⟨a1, a2, a3⟩ := h.2.2.2.2.2.2 i h0 h1
    have c := deep_leaf hw.2.2.2.2 h0 h1 (by omega)
    rw [lp_X10_leafOf_2, wk]
    simp (disch := omega) only [↓rdA_t, ↓wrA_t, ↓ixA_t, ↓wrF_d, ↓bd2_s, ↓bd1_s, ↓bnd_d, ↓iww_t, ↓iww_f, ↓iwl_t, ↓iwl_f, ↓ilw_t, ↓ilw_f, ↓eww_t, ↓eww_f, ↓ewl_t, ↓ewl_f, ↓ez_t, ↓ez_f, ↓il_t, ↓il_f, il_t, il_f, ez_t, ez_f, if_true, if_false, upS_h, upS_o, upS_i, Int.reduceAdd, Int.reduceSub, Int.reduceMul, Int.reduceNeg, wI_id, a1, c]
  | succ m ih =>
    intro i n h0 h1 h2 hn
    obtain ⟨n, rfl⟩ : ∃ k, n = k + 1 := ⟨n - 1, by omega⟩
    obtain ⟨a1, a2, a3⟩ := h.2.2.2.2.2.2 i h0 h1
    have k1 := (hw.2.2.2.2.2.2.2.2.2 i h0 h1).1
    rw [lp_X10_leafOf_2, wk]
    by_cases c : α 12 i = 0
    · simp (disch := omega) only [↓rdA_t, ↓wrA_t, ↓ixA_t, ↓wrF_d, ↓bd2_s, ↓bd1_s, ↓bnd_d, ↓iww_t, ↓iww_f, ↓iwl_t, ↓iwl_f, ↓ilw_t, ↓ilw_f, ↓eww_t, ↓eww_f, ↓ewl_t, ↓ewl_f, ↓ez_t, ↓ez_f, ↓il_t, ↓il_f, il_t, il_f, ez_t, ez_f, if_true, if_false, upS_h, upS_o, upS_i, Int.reduceAdd, Int.reduceSub, Int.reduceMul, Int.reduceNeg, wI_id, a1, c]
    · have k := kid_p (l := tL α q) (r := tR α q) (p := α 8 q) (d := α 9 q) hw.2.2.2.2 h0 h1 c
      have g := ih (kid α i (tL α q) (tR α q) (α 8 q) (α 9 q)) n (by omega) k.2.1 (by omega) (by omega)
      rw [if_neg c, ← g]
      unfold jn_X10_leafOf_30
      unfold kid at k ⊢
      by_cases c2 : yes α i (tL α q) (tR α q) (α 8 q) (α 9 q) = 0
      · rw [if_pos c2] at k ⊢
        simp (disch := omega) only [↓rdA_t, ↓wrA_t, ↓ixA_t, ↓wrF_d, ↓bd2_s, ↓bd1_s, ↓bnd_d, ↓iww_t, ↓iww_f, ↓iwl_t, ↓iwl_f, ↓ilw_t, ↓ilw_f, ↓eww_t, ↓eww_f, ↓ewl_t, ↓ewl_f, ↓ez_t, ↓ez_f, ↓il_t, ↓il_f, il_t, il_f, ez_t, ez_f, if_true, if_false, upS_h, upS_o, upS_i, Int.reduceAdd, Int.reduceSub, Int.reduceMul, Int.reduceNeg, wI_id, a1, m_tAns h hw h0 h1 c h3 h4, (a3 c).2]
      · rw [if_neg c2] at k ⊢
        have c3 : yes α i (tL α q) (tR α q) (α 8 q) (α 9 q) = 1 := by have := yes_r (α := α) (i := i) (l := tL α q) (r := tR α q) (p := α 8 q) (d := α 9 q); omega
        simp (disch := omega) only [↓rdA_t, ↓wrA_t, ↓ixA_t, ↓wrF_d, ↓bd2_s, ↓bd1_s, ↓bnd_d, ↓iww_t, ↓iww_f, ↓iwl_t, ↓iwl_f, ↓ilw_t, ↓ilw_f, ↓eww_t, ↓eww_f, ↓ewl_t, ↓ewl_f, ↓ez_t, ↓ez_f, ↓il_t, ↓il_f, il_t, il_f, ez_t, ez_f, if_true, if_false, upS_h, upS_o, upS_i, Int.reduceAdd, Int.reduceSub, Int.reduceMul, Int.reduceNeg, wI_id, a1, m_tAns h hw h0 h1 c h3 h4, c3, (a3 c).1]
theorem m_lfU {σ α : St} {u : Int} (h : JM σ α) (hw : WF α) (h3 : 0 ≤ u) (h4 : u < α 0 0) : f_X10_leafOf σ 1 u = some (α 13 (lfU α u)) := by
  have w1 := hw.2.2.2.2.1
  have k := lfU_p (u := u) hw.2.2.2.2
  unfold f_X10_leafOf
  rw [m_leaf_gU _ h hw h3 h4 7 0 1000 (by omega) (by omega) (by have := hw.2.2.2.2.2.2.2.2.1; omega) (by omega)]
  unfold lfU at k ⊢
  obtain ⟨a1, a2, a3⟩ := h.2.2.2.2.2.2 _ k.1 k.2.1
  simp (disch := omega) only [↓rdA_t, ↓wrA_t, ↓ixA_t, ↓wrF_d, ↓bd2_s, ↓bd1_s, ↓bnd_d, ↓iww_t, ↓iww_f, ↓iwl_t, ↓iwl_f, ↓ilw_t, ↓ilw_f, ↓eww_t, ↓eww_f, ↓ewl_t, ↓ewl_f, ↓ez_t, ↓ez_f, ↓il_t, ↓il_f, il_t, il_f, ez_t, ez_f, if_true, if_false, upS_h, upS_o, upS_i, Int.reduceAdd, Int.reduceSub, Int.reduceMul, Int.reduceNeg, wI_id, a2]
theorem m_lfT {σ α : St} {q : Int} (h : JM σ α) (hw : WF α) (h3 : 0 ≤ q) (h4 : q < α 0 1) : f_X10_leafOf σ 0 q = some (α 13 (lfT α q)) := by
  have w1 := hw.2.2.2.2.1
  have k := lfT_p (k := q) hw.2.2.2.2
  unfold f_X10_leafOf
  rw [m_leaf_gT _ h hw h3 h4 7 0 1000 (by omega) (by omega) (by have := hw.2.2.2.2.2.2.2.2.1; omega) (by omega)]
  unfold lfT at k ⊢
  obtain ⟨a1, a2, a3⟩ := h.2.2.2.2.2.2 _ k.1 k.2.1
  simp (disch := omega) only [↓rdA_t, ↓wrA_t, ↓ixA_t, ↓wrF_d, ↓bd2_s, ↓bd1_s, ↓bnd_d, ↓iww_t, ↓iww_f, ↓iwl_t, ↓iwl_f, ↓ilw_t, ↓ilw_f, ↓eww_t, ↓eww_f, ↓ewl_t, ↓ewl_f, ↓ez_t, ↓ez_f, ↓il_t, ↓il_f, il_t, il_f, ez_t, ez_f, if_true, if_false, upS_h, upS_o, upS_i, Int.reduceAdd, Int.reduceSub, Int.reduceMul, Int.reduceNeg, wI_id, a2]
/-! ===== leaf ===== -/
def rLf (α : St) (s u : Int) : Int := if s = 0 ∧ 0 ≤ u ∧ u < α 0 0 then α 13 (lfU α u) else if s = 1 ∧ 0 ≤ u ∧ u < α 0 1 then α 13 (lfT α u) else -2
def aLf (α : St) (s u : Int) : St := if s = 0 ∧ 0 ≤ u ∧ u < α 0 0 then α else if s = 1 ∧ 0 ≤ u ∧ u < α 0 1 then α else aR α 3
theorem xc_leaf {σ α : St} {s u : Int} (h : IC σ α) (hw : WF α) (hs : inR s) (hu : inR u) : oC (f_X9_leaf σ s u) σ α (rLf α s u) (aLf α s u) := by
  have e1 := c_isU h.1 hw.1 hu
  have e2 := c_isT h.2.1 hw.2.1 hu
  unfold inR at hs hu
  unfold f_X9_leaf jn_X9_leaf_28 rLf aLf
  rw [e1, e2]
  by_cases c : s = 0
  · subst c
    rw [if_neg (show ¬ ((0 : Int) = 1 ∧ 0 ≤ u ∧ u < α 0 1) by omega), if_neg (show ¬ ((0 : Int) = 1 ∧ 0 ≤ u ∧ u < α 0 1) by omega)]
    by_cases c2 : 0 ≤ u ∧ u < α 0 0
    · have k := lfU_p (u := u) hw.2.2.2.2
      rw [if_pos (show (0 : Int) = 0 ∧ 0 ≤ u ∧ u < α 0 0 from ⟨rfl, c2⟩), if_pos (show (0 : Int) = 0 ∧ 0 ≤ u ∧ u < α 0 0 from ⟨rfl, c2⟩)]
      simp (disch := omega) only [↓rdA_t, ↓wrA_t, ↓ixA_t, ↓wrF_d, ↓bd2_s, ↓bd1_s, ↓bnd_d, ↓iww_t, ↓iww_f, ↓iwl_t, ↓iwl_f, ↓ilw_t, ↓ilw_f, ↓eww_t, ↓eww_f, ↓ewl_t, ↓ewl_f, ↓ez_t, ↓ez_f, ↓il_t, ↓il_f, il_t, il_f, ez_t, ez_f, if_true, if_false, upS_h, upS_o, upS_i, Int.reduceAdd, Int.reduceSub, Int.reduceMul, Int.reduceNeg, wI_id, if_pos c2, c_lfU h hw c2.1 c2.2, c_num h.2.2.2.2 hw.2.2.2.2 k.1 k.2.1 k.2.2]
      exact oC_ret _ h
    · rw [if_neg (show ¬ ((0 : Int) = 0 ∧ 0 ≤ u ∧ u < α 0 0) from fun z => c2 z.2), if_neg (show ¬ ((0 : Int) = 0 ∧ 0 ≤ u ∧ u < α 0 0) from fun z => c2 z.2)]
      simp (disch := omega) only [↓rdA_t, ↓wrA_t, ↓ixA_t, ↓wrF_d, ↓bd2_s, ↓bd1_s, ↓bnd_d, ↓iww_t, ↓iww_f, ↓iwl_t, ↓iwl_f, ↓ilw_t, ↓ilw_f, ↓eww_t, ↓eww_f, ↓ewl_t, ↓ewl_f, ↓ez_t, ↓ez_f, ↓il_t, ↓il_f, il_t, il_f, ez_t, ez_f, if_true, if_false, upS_h, upS_o, upS_i, Int.reduceAdd, Int.reduceSub, Int.reduceMul, Int.reduceNeg, wI_id, if_neg c2]
      exact oC_id (oC_bad h)
  · rw [if_neg (show ¬ (s = 0 ∧ 0 ≤ u ∧ u < α 0 0) by omega), if_neg (show ¬ (s = 0 ∧ 0 ≤ u ∧ u < α 0 0) by omega)]
    by_cases c1 : s = 1
    · subst c1
      by_cases c2 : 0 ≤ u ∧ u < α 0 1
      · have k := lfT_p (k := u) hw.2.2.2.2
        rw [if_pos (show (1 : Int) = 1 ∧ 0 ≤ u ∧ u < α 0 1 from ⟨rfl, c2⟩), if_pos (show (1 : Int) = 1 ∧ 0 ≤ u ∧ u < α 0 1 from ⟨rfl, c2⟩)]
        simp (disch := omega) only [↓rdA_t, ↓wrA_t, ↓ixA_t, ↓wrF_d, ↓bd2_s, ↓bd1_s, ↓bnd_d, ↓iww_t, ↓iww_f, ↓iwl_t, ↓iwl_f, ↓ilw_t, ↓ilw_f, ↓eww_t, ↓eww_f, ↓ewl_t, ↓ewl_f, ↓ez_t, ↓ez_f, ↓il_t, ↓il_f, il_t, il_f, ez_t, ez_f, if_true, if_false, upS_h, upS_o, upS_i, Int.reduceAdd, Int.reduceSub, Int.reduceMul, Int.reduceNeg, wI_id, if_pos c2, c_lfT h hw c2.1 c2.2, c_num h.2.2.2.2 hw.2.2.2.2 k.1 k.2.1 k.2.2]
        exact oC_ret _ h
      · rw [if_neg (show ¬ ((1 : Int) = 1 ∧ 0 ≤ u ∧ u < α 0 1) from fun z => c2 z.2), if_neg (show ¬ ((1 : Int) = 1 ∧ 0 ≤ u ∧ u < α 0 1) from fun z => c2 z.2)]
        simp (disch := omega) only [↓rdA_t, ↓wrA_t, ↓ixA_t, ↓wrF_d, ↓bd2_s, ↓bd1_s, ↓bnd_d, ↓iww_t, ↓iww_f, ↓iwl_t, ↓iwl_f, ↓ilw_t, ↓ilw_f, ↓eww_t, ↓eww_f, ↓ewl_t, ↓ewl_f, ↓ez_t, ↓ez_f, ↓il_t, ↓il_f, il_t, il_f, ez_t, ez_f, if_true, if_false, upS_h, upS_o, upS_i, Int.reduceAdd, Int.reduceSub, Int.reduceMul, Int.reduceNeg, wI_id, if_neg c2]
        exact oC_id (oC_bad h)
    · rw [if_neg (show ¬ (s = 1 ∧ 0 ≤ u ∧ u < α 0 1) by omega), if_neg (show ¬ (s = 1 ∧ 0 ≤ u ∧ u < α 0 1) by omega)]
      simp (disch := omega) only [↓rdA_t, ↓wrA_t, ↓ixA_t, ↓wrF_d, ↓bd2_s, ↓bd1_s, ↓bnd_d, ↓iww_t, ↓iww_f, ↓iwl_t, ↓iwl_f, ↓ilw_t, ↓ilw_f, ↓eww_t, ↓eww_f, ↓ewl_t, ↓ewl_f, ↓ez_t, ↓ez_f, ↓il_t, ↓il_f, il_t, il_f, ez_t, ez_f, if_true, if_false, upS_h, upS_o, upS_i, Int.reduceAdd, Int.reduceSub, Int.reduceMul, Int.reduceNeg, wI_id]
      exact oC_id (oC_bad h)
theorem xm_leaf {σ α : St} {s u : Int} (h : IM σ α) (hw : WF α) (hs : inR s) (hu : inR u) : oM (f_X10_leaf σ s u) σ α (rLf α s u) (aLf α s u) := by
  have e1 := m_isU h.1 hw.1 hu
  have e2 := m_isT h.2.1 hw.2.1 hu
  unfold inR at hs hu
  unfold f_X10_leaf jn_X10_leaf_40 rLf aLf
  rw [e1, e2]
  by_cases c : s = 0
  · subst c
    rw [if_neg (show ¬ ((0 : Int) = 1 ∧ 0 ≤ u ∧ u < α 0 1) by omega), if_neg (show ¬ ((0 : Int) = 1 ∧ 0 ≤ u ∧ u < α 0 1) by omega)]
    by_cases c2 : 0 ≤ u ∧ u < α 0 0
    · rw [if_pos (show (0 : Int) = 0 ∧ 0 ≤ u ∧ u < α 0 0 from ⟨rfl, c2⟩), if_pos (show (0 : Int) = 0 ∧ 0 ≤ u ∧ u < α 0 0 from ⟨rfl, c2⟩)]
      simp (disch := omega) only [↓rdA_t, ↓wrA_t, ↓ixA_t, ↓wrF_d, ↓bd2_s, ↓bd1_s, ↓bnd_d, ↓iww_t, ↓iww_f, ↓iwl_t, ↓iwl_f, ↓ilw_t, ↓ilw_f, ↓eww_t, ↓eww_f, ↓ewl_t, ↓ewl_f, ↓ez_t, ↓ez_f, ↓il_t, ↓il_f, il_t, il_f, ez_t, ez_f, if_true, if_false, upS_h, upS_o, upS_i, Int.reduceAdd, Int.reduceSub, Int.reduceMul, Int.reduceNeg, wI_id, in_t, if_pos c2, m_lfU (JM_of h) hw c2.1 c2.2]
      exact oM_ret _ h
    · rw [if_neg (show ¬ ((0 : Int) = 0 ∧ 0 ≤ u ∧ u < α 0 0) from fun z => c2 z.2), if_neg (show ¬ ((0 : Int) = 0 ∧ 0 ≤ u ∧ u < α 0 0) from fun z => c2 z.2)]
      simp (disch := omega) only [↓rdA_t, ↓wrA_t, ↓ixA_t, ↓wrF_d, ↓bd2_s, ↓bd1_s, ↓bnd_d, ↓iww_t, ↓iww_f, ↓iwl_t, ↓iwl_f, ↓ilw_t, ↓ilw_f, ↓eww_t, ↓eww_f, ↓ewl_t, ↓ewl_f, ↓ez_t, ↓ez_f, ↓il_t, ↓il_f, il_t, il_f, ez_t, ez_f, if_true, if_false, upS_h, upS_o, upS_i, Int.reduceAdd, Int.reduceSub, Int.reduceMul, Int.reduceNeg, wI_id, in_t, if_neg c2]
      exact oM_id (oM_bad (-2) h)
  · rw [if_neg (show ¬ (s = 0 ∧ 0 ≤ u ∧ u < α 0 0) by omega), if_neg (show ¬ (s = 0 ∧ 0 ≤ u ∧ u < α 0 0) by omega)]
    by_cases c1 : s = 1
    · subst c1
      by_cases c2 : 0 ≤ u ∧ u < α 0 1
      · rw [if_pos (show (1 : Int) = 1 ∧ 0 ≤ u ∧ u < α 0 1 from ⟨rfl, c2⟩), if_pos (show (1 : Int) = 1 ∧ 0 ≤ u ∧ u < α 0 1 from ⟨rfl, c2⟩)]
        simp (disch := omega) only [↓rdA_t, ↓wrA_t, ↓ixA_t, ↓wrF_d, ↓bd2_s, ↓bd1_s, ↓bnd_d, ↓iww_t, ↓iww_f, ↓iwl_t, ↓iwl_f, ↓ilw_t, ↓ilw_f, ↓eww_t, ↓eww_f, ↓ewl_t, ↓ewl_f, ↓ez_t, ↓ez_f, ↓il_t, ↓il_f, il_t, il_f, ez_t, ez_f, if_true, if_false, upS_h, upS_o, upS_i, Int.reduceAdd, Int.reduceSub, Int.reduceMul, Int.reduceNeg, wI_id, in_t, if_pos c2, m_lfT (JM_of h) hw c2.1 c2.2]
        exact oM_ret _ h
      · rw [if_neg (show ¬ ((1 : Int) = 1 ∧ 0 ≤ u ∧ u < α 0 1) from fun z => c2 z.2), if_neg (show ¬ ((1 : Int) = 1 ∧ 0 ≤ u ∧ u < α 0 1) from fun z => c2 z.2)]
        simp (disch := omega) only [↓rdA_t, ↓wrA_t, ↓ixA_t, ↓wrF_d, ↓bd2_s, ↓bd1_s, ↓bnd_d, ↓iww_t, ↓iww_f, ↓iwl_t, ↓iwl_f, ↓ilw_t, ↓ilw_f, ↓eww_t, ↓eww_f, ↓ewl_t, ↓ewl_f, ↓ez_t, ↓ez_f, ↓il_t, ↓il_f, il_t, il_f, ez_t, ez_f, if_true, if_false, upS_h, upS_o, upS_i, Int.reduceAdd, Int.reduceSub, Int.reduceMul, Int.reduceNeg, wI_id, in_t, if_neg c2]
        exact oM_id (oM_bad (-2) h)
    · rw [if_neg (show ¬ (s = 1 ∧ 0 ≤ u ∧ u < α 0 1) by omega), if_neg (show ¬ (s = 1 ∧ 0 ≤ u ∧ u < α 0 1) by omega)]
      simp (disch := omega) only [↓rdA_t, ↓wrA_t, ↓ixA_t, ↓wrF_d, ↓bd2_s, ↓bd1_s, ↓bnd_d, ↓iww_t, ↓iww_f, ↓iwl_t, ↓iwl_f, ↓ilw_t, ↓ilw_f, ↓eww_t, ↓eww_f, ↓ewl_t, ↓ewl_f, ↓ez_t, ↓ez_f, ↓il_t, ↓il_f, il_t, il_f, ez_t, ez_f, if_true, if_false, upS_h, upS_o, upS_i, Int.reduceAdd, Int.reduceSub, Int.reduceMul, Int.reduceNeg, wI_id, in_f]
      exact oM_id (oM_bad (-2) h)
theorem wf_leaf {α : St} {s u : Int} (hw : WF α) : WF (aLf α s u) := by
  unfold aLf
  by_cases c : s = 0 ∧ 0 ≤ u ∧ u < α 0 0
  · rw [if_pos c]; exact hw
  · rw [if_neg c]
    by_cases c2 : s = 1 ∧ 0 ≤ u ∧ u < α 0 1
    · rw [if_pos c2]; exact hw
    · rw [if_neg c2]; exact WF_aR 3 (by omega) hw
end
section
/-! ===== prices ===== -/
theorem divI_e {x y : Int} (h : 0 ≤ x ∧ x ≤ 2147483647 ∧ 0 < y ∧ y ≤ 2147483647) : divI x y = x / y := by
  have q1 : 0 ≤ x / y := Int.ediv_nonneg h.1 (by omega)
  have q2 : x / y ≤ x := Int.ediv_le_self y h.1
  unfold divI iV
  rw [Int32.toInt_div, Int32.toInt_ofInt_of_le (by omega) (by omega), Int32.toInt_ofInt_of_le (by omega) (by omega), Int.tdiv_eq_ediv_of_nonneg h.1]
  rw [Int.bmod_def]
  omega
def ab (x y : Int) : Int := if y < x then x - y else y - x
theorem ab_r {x y m : Int} (h : 0 ≤ x ∧ x ≤ m ∧ 0 ≤ y ∧ y ≤ m) : 0 ≤ ab x y ∧ ab x y ≤ m := by
  unfold ab
  by_cases c : y < x
  · rw [if_pos c]; omega
  · rw [if_neg c]; omega
theorem ab_c {x y : Int} (h : 0 ≤ x ∧ x ≤ 1000 ∧ 0 ≤ y ∧ y ≤ 1000) : f_J9_abs_0f7a4 (x - y) = ab x y := by
  rw [abs_e (by omega)]
  unfold ab
  by_cases c : y < x
  · rw [if_pos c, if_neg (by omega)]
  · rw [if_neg c]
    by_cases c2 : x - y < 0
    · rw [if_pos c2]; omega
    · rw [if_neg c2]; omega
theorem ab_m {x y : Int} (h : 0 ≤ x ∧ x ≤ 1000 ∧ 0 ≤ y ∧ y ≤ 1000) : f_X10_far x y = ab x y := far_e (by omega)
def z2 (x y : Int) : Int := if x = y then 0 else 2
theorem z2_r {x y : Int} : 0 ≤ z2 x y ∧ z2 x y ≤ 2 := by
  unfold z2
  by_cases c : x = y
  · rw [if_pos c]; omega
  · rw [if_neg c]; omega
theorem z2_e {x y : Int} (h : 0 ≤ x ∧ x ≤ 1000 ∧ 0 ≤ y ∧ y ≤ 1000) : (if wI x = wI y then (0 : Int) else 2) = z2 x y := by
  rw [wI_id (by omega) (by omega), wI_id (by omega) (by omega)]; rfl
def fitP (α : St) (u k : Int) : Int := ab (α 4 u) (α 8 k)
def fitQ (α : St) (u k : Int) : Int := fitP α u k + ab (α 5 u) (α 9 k)
def fitB (α : St) (u k : Int) : Int := z2 (α 2 u) (tL α k) + z2 (α 3 u) (tR α k)
def fitS (α : St) (a u k : Int) : Int := if a = 1 then fitQ α u k + fitB α u k else if a = 2 then fitQ α u k + fitP α u k else if a = 3 then 2 * (fitQ α u k + fitB α u k) else if a = 4 then divI (fitQ α u k + fitP α u k) 2 else fitQ α u k
theorem fitR {α : St} {u k : Int} (hw : WF α) (h0 : 0 ≤ u) (h1 : u < α 0 0) (h2 : 0 ≤ k) (h3 : k < α 0 1) : (0 ≤ fitP α u k ∧ fitP α u k ≤ 9) ∧ (0 ≤ fitQ α u k ∧ fitQ α u k ≤ 18) ∧ (0 ≤ fitB α u k ∧ fitB α u k ≤ 4) := by
  obtain ⟨k1, k2, k3, k4, k5, k6⟩ := hw.1.2.2 u h0 h1
  obtain ⟨q1, q2, q3⟩ := hw.2.1.2.2 k h2 h3
  have r1 := ab_r (x := α 4 u) (y := α 8 k) (m := 9) (by omega)
  have r2 := ab_r (x := α 5 u) (y := α 9 k) (m := 9) (by omega)
  have r3 := z2_r (x := α 2 u) (y := tL α k)
  have r4 := z2_r (x := α 3 u) (y := tR α k)
  unfold fitQ fitB fitP
  omega
theorem fitS_r {α : St} {a u k : Int} (hw : WF α) (h0 : 0 ≤ u) (h1 : u < α 0 0) (h2 : 0 ≤ k) (h3 : k < α 0 1) : 0 ≤ fitS α a u k ∧ fitS α a u k ≤ 44 := by
  obtain ⟨r1, r2, r3⟩ := fitR hw h0 h1 h2 h3
  unfold fitS
  rw [divI_e (by omega)]
  by_cases c1 : a = 1
  · rw [if_pos c1]; omega
  · rw [if_neg c1]
    by_cases c2 : a = 2
    · rw [if_pos c2]; omega
    · rw [if_neg c2]
      by_cases c3 : a = 3
      · rw [if_pos c3]; omega
      · rw [if_neg c3]
        by_cases c4 : a = 4
        · rw [if_pos c4]; omega
        · rw [if_neg c4]; omega
theorem c_fit {σ α : St} {a u k : Int} (h : IC σ α) (hw : WF α) (ha : 0 ≤ a ∧ a ≤ 4) (h0 : 0 ≤ u) (h1 : u < α 0 0) (h2 : 0 ≤ k) (h3 : k < α 0 1) : f_X3_ofFit σ a u k = some (fitS α a u k) := by
  have w1 := hw.1.2.1
  have w2 := hw.2.1.2.1
  obtain ⟨k1, k2, k3, k4, k5, k6⟩ := hw.1.2.2 u h0 h1
  obtain ⟨q1, q2, q3⟩ := hw.2.1.2.2 k h2 h3
  obtain ⟨e1, e2, e3, e4, e5, e6, e7⟩ := h.1.2.1 u h0 h1
  obtain ⟨g1, g2, g3⟩ := h.2.1.2 k h2 h3
  have r1 := tL_r hw.2.1 h2 h3
  have r2 := tR_r hw.2.1 h2 h3
  have eb : f_X3_besidePart σ u k = some (fitB α u k) := by
    unfold f_X3_besidePart fitB
    simp (disch := omega) only [rdA_t, bd1_s, bnd_d, c_tL h.2.1 hw.2.1 h2 h3, c_tR h.2.1 hw.2.1 h2 h3, e2, e3, z2_e]
  unfold f_X3_ofFit fitS
  have : a = 0 ∨ a = 1 ∨ a = 2 ∨ a = 3 ∨ a = 4 := by omega
  rcases this with rfl | rfl | rfl | rfl | rfl <;> (simp (disch := omega) only [↓rdA_t, ↓wrA_t, ↓ixA_t, ↓wrF_d, ↓bd2_s, ↓bd1_s, ↓bnd_d, ↓iww_t, ↓iww_f, ↓iwl_t, ↓iwl_f, ↓ilw_t, ↓ilw_f, ↓eww_t, ↓eww_f, ↓ewl_t, ↓ewl_f, ↓ez_t, ↓ez_f, ↓il_t, ↓il_f, il_t, il_f, ez_t, ez_f, if_true, if_false, upS_h, upS_o, upS_i, Int.reduceAdd, Int.reduceSub, Int.reduceMul, Int.reduceNeg, wI_id, eb, e4, e5, g2, g3, ab_c]; rfl)
theorem m_fit {σ α : St} {a u k : Int} (h : JM σ α) (hw : WF α) (ha : 0 ≤ a ∧ a ≤ 4) (h0 : 0 ≤ u) (h1 : u < α 0 0) (h2 : 0 ≤ k) (h3 : k < α 0 1) : f_X10_fitAs σ a u k = some (fitS α a u k) := by
  have w1 := hw.1.2.1
  have w2 := hw.2.1.2.1
  obtain ⟨k1, k2, k3, k4, k5, k6⟩ := hw.1.2.2 u h0 h1
  obtain ⟨q1, q2, q3⟩ := hw.2.1.2.2 k h2 h3
  have e1 := m_at h.1 hw.1 (w := 1) h0 h1 (by omega) (by omega)
  have e2 := m_at h.1 hw.1 (w := 2) h0 h1 (by omega) (by omega)
  have e3 := m_at h.1 hw.1 (w := 3) h0 h1 (by omega) (by omega)
  have e4 := m_at h.1 hw.1 (w := 4) h0 h1 (by omega) (by omega)
  have g1 := h.2.1.2 k 1 h2 h3 (by omega) (by omega)
  have g2 := h.2.1.2 k 2 h2 h3 (by omega) (by omega)
  simp only [Int.reduceAdd] at e1 e2 e3 e4 g1 g2
  have r1 := tL_r hw.2.1 h2 h3
  have r2 := tR_r hw.2.1 h2 h3
  unfold f_X10_fitAs fitS
  simp (disch := omega) only [rdA_t, bd1_s, bnd_d, e1, e2, e3, e4, g1, g2, m_tL h.2.1 hw.2.1 h2 h3, m_tR h.2.1 hw.2.1 h2 h3, z2_e, ab_m, Int.add_assoc]
  have eq1 : ab (α 4 u) (α 8 k) + ab (α 5 u) (α 9 k) = fitQ α u k := rfl
  have eq2 : ab (α 4 u) (α 8 k) + (ab (α 5 u) (α 9 k) + (z2 (α 2 u) (tL α k) + z2 (α 3 u) (tR α k))) = fitQ α u k + fitB α u k := by unfold fitQ fitB fitP; omega
  have eq3 : ab (α 4 u) (α 8 k) + (ab (α 5 u) (α 9 k) + ab (α 4 u) (α 8 k)) = fitQ α u k + fitP α u k := by unfold fitQ fitP; omega
  rw [eq2, eq3, eq1]
  have : a = 0 ∨ a = 1 ∨ a = 2 ∨ a = 3 ∨ a = 4 := by omega
  rcases this with rfl | rfl | rfl | rfl | rfl <;> simp (disch := omega) only [↓rdA_t, ↓wrA_t, ↓ixA_t, ↓wrF_d, ↓bd2_s, ↓bd1_s, ↓bnd_d, ↓iww_t, ↓iww_f, ↓iwl_t, ↓iwl_f, ↓ilw_t, ↓ilw_f, ↓eww_t, ↓eww_f, ↓ewl_t, ↓ewl_f, ↓ez_t, ↓ez_f, ↓il_t, ↓il_f, il_t, il_f, ez_t, ez_f, if_true, if_false, upS_h, upS_o, upS_i, Int.reduceAdd, Int.reduceSub, Int.reduceMul, Int.reduceNeg, wI_id]
def joiS (α : St) (u v : Int) : Int := if nxS α u = v then 0 else 3 + ab (α 4 u) (α 4 v) + z2 (α 3 u) (α 1 v) + z2 (α 2 v) (α 1 u)
theorem joiS_r {α : St} {u v : Int} (hw : wU α) (h0 : 0 ≤ u) (h1 : u < α 0 0) (h2 : 0 ≤ v) (h3 : v < α 0 0) : 0 ≤ joiS α u v ∧ joiS α u v ≤ 16 := by
  obtain ⟨k1, k2, k3, k4, k5, k6⟩ := hw.2.2 u h0 h1
  obtain ⟨q1, q2, q3, q4, q5, q6⟩ := hw.2.2 v h2 h3
  have r1 := ab_r (x := α 4 u) (y := α 4 v) (m := 9) (by omega)
  have r3 := z2_r (x := α 3 u) (y := α 1 v)
  have r4 := z2_r (x := α 2 v) (y := α 1 u)
  unfold joiS
  by_cases c : nxS α u = v
  · rw [if_pos c]; omega
  · rw [if_neg c]; omega
theorem c_joint {σ α : St} {u v : Int} (h : cU σ α) (hw : wU α) (h0 : 0 ≤ u) (h1 : u < α 0 0) (h2 : 0 ≤ v) (h3 : v < α 0 0) : f_X3_ofJoint σ u v = some (joiS α u v) := by
  have w1 := hw.2.1
  obtain ⟨k1, k2, k3, k4, k5, k6⟩ := hw.2.2 u h0 h1
  obtain ⟨q1, q2, q3, q4, q5, q6⟩ := hw.2.2 v h2 h3
  obtain ⟨e1, e2, e3, e4, e5, e6, e7⟩ := h.2.1 u h0 h1
  obtain ⟨g1, g2, g3, g4, g5, g6, g7⟩ := h.2.1 v h2 h3
  have e8 := c_foll h hw h0 h1
  have e9 := nxt_r hw h0 (nxS_is hw h0)
  unfold f_X3_ofJoint joiS
  by_cases c : nxS α u = v
  · simp (disch := omega) only [↓rdA_t, ↓wrA_t, ↓ixA_t, ↓wrF_d, ↓bd2_s, ↓bd1_s, ↓bnd_d, ↓iww_t, ↓iww_f, ↓iwl_t, ↓iwl_f, ↓ilw_t, ↓ilw_f, ↓eww_t, ↓eww_f, ↓ewl_t, ↓ewl_f, ↓ez_t, ↓ez_f, ↓il_t, ↓il_f, il_t, il_f, ez_t, ez_f, if_true, if_false, upS_h, upS_o, upS_i, Int.reduceAdd, Int.reduceSub, Int.reduceMul, Int.reduceNeg, wI_id, e8]
  · rw [rdA_t (by omega), e8, eww_f (by omega), if_neg c]
    simp (disch := omega) only [rdA_t, bnd_d, e1, e2, e3, e4, g1, g2, g3, g4, z2_e, ab_c]
theorem m_joint {σ α : St} {u v : Int} (h : mU σ α) (hw : wU α) (h0 : 0 ≤ u) (h1 : u < α 0 0) (h2 : 0 ≤ v) (h3 : v < α 0 0) : f_X10_jointOf σ u v = some (joiS α u v) := by
  have w1 := hw.2.1
  obtain ⟨k1, k2, k3, k4, k5, k6⟩ := hw.2.2 u h0 h1
  obtain ⟨q1, q2, q3, q4, q5, q6⟩ := hw.2.2 v h2 h3
  have e0 := m_at h hw (w := 0) h0 h1 (by omega) (by omega)
  have e2 := m_at h hw (w := 2) h0 h1 (by omega) (by omega)
  have e3 := m_at h hw (w := 3) h0 h1 (by omega) (by omega)
  have g0 := m_at h hw (w := 0) h2 h3 (by omega) (by omega)
  have g1 := m_at h hw (w := 1) h2 h3 (by omega) (by omega)
  have g3 := m_at h hw (w := 3) h2 h3 (by omega) (by omega)
  simp only [Int.reduceAdd] at e0 e2 e3 g0 g1 g3
  have e9 := nxt_r hw h0 (nxS_is hw h0)
  unfold f_X10_jointOf joiS
  rw [m_next h hw h0 h1]
  by_cases c : nxS α u = v
  · simp (disch := omega) only [↓rdA_t, ↓wrA_t, ↓ixA_t, ↓wrF_d, ↓bd2_s, ↓bd1_s, ↓bnd_d, ↓iww_t, ↓iww_f, ↓iwl_t, ↓iwl_f, ↓ilw_t, ↓ilw_f, ↓eww_t, ↓eww_f, ↓ewl_t, ↓ewl_f, ↓ez_t, ↓ez_f, ↓il_t, ↓il_f, il_t, il_f, ez_t, ez_f, if_true, if_false, upS_h, upS_o, upS_i, Int.reduceAdd, Int.reduceSub, Int.reduceMul, Int.reduceNeg, wI_id]
  · rw [bd1_s, eww_f (by omega), if_neg c]
    simp (disch := omega) only [bd1_s, e0, e2, e3, g0, g1, g3, z2_e, ab_m]
/-! ===== fit and joint ===== -/
def rFt (α : St) (u k : Int) : Int := if (0 ≤ u ∧ u < α 0 0) ∧ 0 ≤ k ∧ k < α 0 1 then fitS α (α 0 2) u k else -2
def aFt (α : St) (u k : Int) : St := if (0 ≤ u ∧ u < α 0 0) ∧ 0 ≤ k ∧ k < α 0 1 then α else aR α 3
def rJt (α : St) (u v : Int) : Int := if (0 ≤ u ∧ u < α 0 0) ∧ 0 ≤ v ∧ v < α 0 0 then joiS α u v else -2
def aJt (α : St) (u v : Int) : St := if (0 ≤ u ∧ u < α 0 0) ∧ 0 ≤ v ∧ v < α 0 0 then α else aR α 3
theorem xc_fit {σ α : St} {u k : Int} (h : IC σ α) (hw : WF α) (hu : inR u) (hk : inR k) : oC (f_X9_fit σ u k) σ α (rFt α u k) (aFt α u k) := by
  have e1 := c_isU h.1 hw.1 hu
  have e2 := c_isT h.2.1 hw.2.1 hk
  unfold f_X9_fit rFt aFt
  rw [e1, e2]
  by_cases c : 0 ≤ u ∧ u < α 0 0
  · rw [if_pos c]
    by_cases c2 : 0 ≤ k ∧ k < α 0 1
    · rw [if_pos c2, if_pos (⟨c, c2⟩ : (0 ≤ u ∧ u < α 0 0) ∧ 0 ≤ k ∧ k < α 0 1), if_pos (⟨c, c2⟩ : (0 ≤ u ∧ u < α 0 0) ∧ 0 ≤ k ∧ k < α 0 1)]
      simp (disch := omega) only [↓rdA_t, ↓wrA_t, ↓ixA_t, ↓wrF_d, ↓bd2_s, ↓bd1_s, ↓bnd_d, ↓iww_t, ↓iww_f, ↓iwl_t, ↓iwl_f, ↓ilw_t, ↓ilw_f, ↓eww_t, ↓eww_f, ↓ewl_t, ↓ewl_f, ↓ez_t, ↓ez_f, ↓il_t, ↓il_f, il_t, il_f, ez_t, ez_f, if_true, if_false, upS_h, upS_o, upS_i, Int.reduceAdd, Int.reduceSub, Int.reduceMul, Int.reduceNeg, wI_id, h.2.2.1.1, c_fit h hw hw.2.2.1.1 c.1 c.2 c2.1 c2.2]
      exact oC_ret _ h
    · rw [if_neg c2, if_neg (show ¬ ((0 ≤ u ∧ u < α 0 0) ∧ 0 ≤ k ∧ k < α 0 1) from fun z => c2 z.2), if_neg (show ¬ ((0 ≤ u ∧ u < α 0 0) ∧ 0 ≤ k ∧ k < α 0 1) from fun z => c2 z.2)]
      simp (disch := omega) only [↓rdA_t, ↓wrA_t, ↓ixA_t, ↓wrF_d, ↓bd2_s, ↓bd1_s, ↓bnd_d, ↓iww_t, ↓iww_f, ↓iwl_t, ↓iwl_f, ↓ilw_t, ↓ilw_f, ↓eww_t, ↓eww_f, ↓ewl_t, ↓ewl_f, ↓ez_t, ↓ez_f, ↓il_t, ↓il_f, il_t, il_f, ez_t, ez_f, if_true, if_false, upS_h, upS_o, upS_i, Int.reduceAdd, Int.reduceSub, Int.reduceMul, Int.reduceNeg, wI_id]
      exact oC_id (oC_bad h)
  · rw [if_neg c, if_neg (show ¬ ((0 ≤ u ∧ u < α 0 0) ∧ 0 ≤ k ∧ k < α 0 1) from fun z => c z.1), if_neg (show ¬ ((0 ≤ u ∧ u < α 0 0) ∧ 0 ≤ k ∧ k < α 0 1) from fun z => c z.1)]
    simp (disch := omega) only [↓rdA_t, ↓wrA_t, ↓ixA_t, ↓wrF_d, ↓bd2_s, ↓bd1_s, ↓bnd_d, ↓iww_t, ↓iww_f, ↓iwl_t, ↓iwl_f, ↓ilw_t, ↓ilw_f, ↓eww_t, ↓eww_f, ↓ewl_t, ↓ewl_f, ↓ez_t, ↓ez_f, ↓il_t, ↓il_f, il_t, il_f, ez_t, ez_f, if_true, if_false, upS_h, upS_o, upS_i, Int.reduceAdd, Int.reduceSub, Int.reduceMul, Int.reduceNeg, wI_id]
    exact oC_id (oC_bad h)
theorem xm_fit {σ α : St} {u k : Int} (h : IM σ α) (hw : WF α) (hu : inR u) (hk : inR k) : oM (f_X10_fit σ u k) σ α (rFt α u k) (aFt α u k) := by
  have e1 := m_isU h.1 hw.1 hu
  have e2 := m_isT h.2.1 hw.2.1 hk
  unfold f_X10_fit rFt aFt
  rw [e1, e2]
  by_cases c : 0 ≤ u ∧ u < α 0 0
  · rw [if_pos c]
    by_cases c2 : 0 ≤ k ∧ k < α 0 1
    · rw [if_pos c2, if_pos (⟨c, c2⟩ : (0 ≤ u ∧ u < α 0 0) ∧ 0 ≤ k ∧ k < α 0 1), if_pos (⟨c, c2⟩ : (0 ≤ u ∧ u < α 0 0) ∧ 0 ≤ k ∧ k < α 0 1)]
      simp (disch := omega) only [↓rdA_t, ↓wrA_t, ↓ixA_t, ↓wrF_d, ↓bd2_s, ↓bd1_s, ↓bnd_d, ↓iww_t, ↓iww_f, ↓iwl_t, ↓iwl_f, ↓ilw_t, ↓ilw_f, ↓eww_t, ↓eww_f, ↓ewl_t, ↓ewl_f, ↓ez_t, ↓ez_f, ↓il_t, ↓il_f, il_t, il_f, ez_t, ez_f, if_true, if_false, upS_h, upS_o, upS_i, Int.reduceAdd, Int.reduceSub, Int.reduceMul, Int.reduceNeg, wI_id, h.2.2.1.1, m_fit (JM_of h) hw hw.2.2.1.1 c.1 c.2 c2.1 c2.2]
      exact oM_ret _ h
    · rw [if_neg c2, if_neg (show ¬ ((0 ≤ u ∧ u < α 0 0) ∧ 0 ≤ k ∧ k < α 0 1) from fun z => c2 z.2), if_neg (show ¬ ((0 ≤ u ∧ u < α 0 0) ∧ 0 ≤ k ∧ k < α 0 1) from fun z => c2 z.2)]
      simp (disch := omega) only [↓rdA_t, ↓wrA_t, ↓ixA_t, ↓wrF_d, ↓bd2_s, ↓bd1_s, ↓bnd_d, ↓iww_t, ↓iww_f, ↓iwl_t, ↓iwl_f, ↓ilw_t, ↓ilw_f, ↓eww_t, ↓eww_f, ↓ewl_t, ↓ewl_f, ↓ez_t, ↓ez_f, ↓il_t, ↓il_f, il_t, il_f, ez_t, ez_f, if_true, if_false, upS_h, upS_o, upS_i, Int.reduceAdd, Int.reduceSub, Int.reduceMul, Int.reduceNeg, wI_id]
      exact oM_id (oM_bad (-2) h)
  · rw [if_neg c, if_neg (show ¬ ((0 ≤ u ∧ u < α 0 0) ∧ 0 ≤ k ∧ k < α 0 1) from fun z => c z.1), if_neg (show ¬ ((0 ≤ u ∧ u < α 0 0) ∧ 0 ≤ k ∧ k < α 0 1) from fun z => c z.1)]
    simp (disch := omega) only [↓rdA_t, ↓wrA_t, ↓ixA_t, ↓wrF_d, ↓bd2_s, ↓bd1_s, ↓bnd_d, ↓iww_t, ↓iww_f, ↓iwl_t, ↓iwl_f, ↓ilw_t, ↓ilw_f, ↓eww_t, ↓eww_f, ↓ewl_t, ↓ewl_f, ↓ez_t, ↓ez_f, ↓il_t, ↓il_f, il_t, il_f, ez_t, ez_f, if_true, if_false, upS_h, upS_o, upS_i, Int.reduceAdd, Int.reduceSub, Int.reduceMul, Int.reduceNeg, wI_id]
    exact oM_id (oM_bad (-2) h)
theorem wf_fit {α : St} {u k : Int} (hw : WF α) : WF (aFt α u k) := by
  unfold aFt
  by_cases c : (0 ≤ u ∧ u < α 0 0) ∧ 0 ≤ k ∧ k < α 0 1
  · rw [if_pos c]; exact hw
  · rw [if_neg c]; exact WF_aR 3 (by omega) hw
theorem xc_joint {σ α : St} {u v : Int} (h : IC σ α) (hw : WF α) (hu : inR u) (hv : inR v) : oC (f_X9_joint σ u v) σ α (rJt α u v) (aJt α u v) := by
  have e1 := c_isU h.1 hw.1 hu
  have e2 := c_isU h.1 hw.1 hv
  unfold f_X9_joint rJt aJt
  rw [e1, e2]
  by_cases c : 0 ≤ u ∧ u < α 0 0
  · rw [if_pos c]
    by_cases c2 : 0 ≤ v ∧ v < α 0 0
    · rw [if_pos c2, if_pos (⟨c, c2⟩ : (0 ≤ u ∧ u < α 0 0) ∧ 0 ≤ v ∧ v < α 0 0), if_pos (⟨c, c2⟩ : (0 ≤ u ∧ u < α 0 0) ∧ 0 ≤ v ∧ v < α 0 0)]
      simp (disch := omega) only [↓rdA_t, ↓wrA_t, ↓ixA_t, ↓wrF_d, ↓bd2_s, ↓bd1_s, ↓bnd_d, ↓iww_t, ↓iww_f, ↓iwl_t, ↓iwl_f, ↓ilw_t, ↓ilw_f, ↓eww_t, ↓eww_f, ↓ewl_t, ↓ewl_f, ↓ez_t, ↓ez_f, ↓il_t, ↓il_f, il_t, il_f, ez_t, ez_f, if_true, if_false, upS_h, upS_o, upS_i, Int.reduceAdd, Int.reduceSub, Int.reduceMul, Int.reduceNeg, wI_id, c_joint h.1 hw.1 c.1 c.2 c2.1 c2.2]
      exact oC_ret _ h
    · rw [if_neg c2, if_neg (show ¬ ((0 ≤ u ∧ u < α 0 0) ∧ 0 ≤ v ∧ v < α 0 0) from fun z => c2 z.2), if_neg (show ¬ ((0 ≤ u ∧ u < α 0 0) ∧ 0 ≤ v ∧ v < α 0 0) from fun z => c2 z.2)]
      simp (disch := omega) only [↓rdA_t, ↓wrA_t, ↓ixA_t, ↓wrF_d, ↓bd2_s, ↓bd1_s, ↓bnd_d, ↓iww_t, ↓iww_f, ↓iwl_t, ↓iwl_f, ↓ilw_t, ↓ilw_f, ↓eww_t, ↓eww_f, ↓ewl_t, ↓ewl_f, ↓ez_t, ↓ez_f, ↓il_t, ↓il_f, il_t, il_f, ez_t, ez_f, if_true, if_false, upS_h, upS_o, upS_i, Int.reduceAdd, Int.reduceSub, Int.reduceMul, Int.reduceNeg, wI_id]
      exact oC_id (oC_bad h)
  · rw [if_neg c, if_neg (show ¬ ((0 ≤ u ∧ u < α 0 0) ∧ 0 ≤ v ∧ v < α 0 0) from fun z => c z.1), if_neg (show ¬ ((0 ≤ u ∧ u < α 0 0) ∧ 0 ≤ v ∧ v < α 0 0) from fun z => c z.1)]
    simp (disch := omega) only [↓rdA_t, ↓wrA_t, ↓ixA_t, ↓wrF_d, ↓bd2_s, ↓bd1_s, ↓bnd_d, ↓iww_t, ↓iww_f, ↓iwl_t, ↓iwl_f, ↓ilw_t, ↓ilw_f, ↓eww_t, ↓eww_f, ↓ewl_t, ↓ewl_f, ↓ez_t, ↓ez_f, ↓il_t, ↓il_f, il_t, il_f, ez_t, ez_f, if_true, if_false, upS_h, upS_o, upS_i, Int.reduceAdd, Int.reduceSub, Int.reduceMul, Int.reduceNeg, wI_id]
    exact oC_id (oC_bad h)
theorem xm_joint {σ α : St} {u v : Int} (h : IM σ α) (hw : WF α) (hu : inR u) (hv : inR v) : oM (f_X10_joint σ u v) σ α (rJt α u v) (aJt α u v) := by
  have e1 := m_isU h.1 hw.1 hu
  have e2 := m_isU h.1 hw.1 hv
  unfold f_X10_joint rJt aJt
  rw [e1, e2]
  by_cases c : 0 ≤ u ∧ u < α 0 0
  · rw [if_pos c]
    by_cases c2 : 0 ≤ v ∧ v < α 0 0
    · rw [if_pos c2, if_pos (⟨c, c2⟩ : (0 ≤ u ∧ u < α 0 0) ∧ 0 ≤ v ∧ v < α 0 0), if_pos (⟨c, c2⟩ : (0 ≤ u ∧ u < α 0 0) ∧ 0 ≤ v ∧ v < α 0 0)]
      simp (disch := omega) only [↓rdA_t, ↓wrA_t, ↓ixA_t, ↓wrF_d, ↓bd2_s, ↓bd1_s, ↓bnd_d, ↓iww_t, ↓iww_f, ↓iwl_t, ↓iwl_f, ↓ilw_t, ↓ilw_f, ↓eww_t, ↓eww_f, ↓ewl_t, ↓ewl_f, ↓ez_t, ↓ez_f, ↓il_t, ↓il_f, il_t, il_f, ez_t, ez_f, if_true, if_false, upS_h, upS_o, upS_i, Int.reduceAdd, Int.reduceSub, Int.reduceMul, Int.reduceNeg, wI_id, m_joint h.1 hw.1 c.1 c.2 c2.1 c2.2]
      exact oM_ret _ h
    · rw [if_neg c2, if_neg (show ¬ ((0 ≤ u ∧ u < α 0 0) ∧ 0 ≤ v ∧ v < α 0 0) from fun z => c2 z.2), if_neg (show ¬ ((0 ≤ u ∧ u < α 0 0) ∧ 0 ≤ v ∧ v < α 0 0) from fun z => c2 z.2)]
      simp (disch := omega) only [↓rdA_t, ↓wrA_t, ↓ixA_t, ↓wrF_d, ↓bd2_s, ↓bd1_s, ↓bnd_d, ↓iww_t, ↓iww_f, ↓iwl_t, ↓iwl_f, ↓ilw_t, ↓ilw_f, ↓eww_t, ↓eww_f, ↓ewl_t, ↓ewl_f, ↓ez_t, ↓ez_f, ↓il_t, ↓il_f, il_t, il_f, ez_t, ez_f, if_true, if_false, upS_h, upS_o, upS_i, Int.reduceAdd, Int.reduceSub, Int.reduceMul, Int.reduceNeg, wI_id]
      exact oM_id (oM_bad (-2) h)
  · rw [if_neg c, if_neg (show ¬ ((0 ≤ u ∧ u < α 0 0) ∧ 0 ≤ v ∧ v < α 0 0) from fun z => c z.1), if_neg (show ¬ ((0 ≤ u ∧ u < α 0 0) ∧ 0 ≤ v ∧ v < α 0 0) from fun z => c z.1)]
    simp (disch := omega) only [↓rdA_t, ↓wrA_t, ↓ixA_t, ↓wrF_d, ↓bd2_s, ↓bd1_s, ↓bnd_d, ↓iww_t, ↓iww_f, ↓iwl_t, ↓iwl_f, ↓ilw_t, ↓ilw_f, ↓eww_t, ↓eww_f, ↓ewl_t, ↓ewl_f, ↓ez_t, ↓ez_f, ↓il_t, ↓il_f, il_t, il_f, ez_t, ez_f, if_true, if_false, upS_h, upS_o, upS_i, Int.reduceAdd, Int.reduceSub, Int.reduceMul, Int.reduceNeg, wI_id]
    exact oM_id (oM_bad (-2) h)
theorem wf_joint {α : St} {u v : Int} (hw : WF α) : WF (aJt α u v) := by
  unfold aJt
  by_cases c : (0 ≤ u ∧ u < α 0 0) ∧ 0 ≤ v ∧ v < α 0 0
  · rw [if_pos c]; exact hw
  · rw [if_neg c]; exact WF_aR 3 (by omega) hw
end
section
/-! ===== ways ===== -/
theorem wk_suc {α : St} {l r p d : Int} : ∀ (n : Nat) (i : Int), wk α l r p d (n + 1) i = if α 12 (wk α l r p d n i) = 0 then wk α l r p d n i else kid α (wk α l r p d n i) l r p d := by
  intro n
  induction n with
  | zero => intro i; rw [wk]; rfl
  | succ n ih =>
    intro i
    rw [wk]
    by_cases c : α 12 i = 0
    · have e : wk α l r p d (n + 1) i = i := by rw [wk, if_pos c]
      rw [if_pos c, e, if_pos c]
    · have e : wk α l r p d (n + 1) i = wk α l r p d n (kid α i l r p d) := by rw [wk, if_neg c]
      rw [if_neg c, ih, e]
theorem wk_in {α : St} {l r p d : Int} (hw : wT α) : ∀ (n : Nat), 0 ≤ wk α l r p d n 0 ∧ wk α l r p d n 0 < α 0 7 ∧ (¬ α 12 (wk α l r p d n 0) = 0 → α 17 (wk α l r p d n 0) = n) ∧ α 17 (wk α l r p d n 0) ≤ n := by
  intro n
  induction n with
  | zero => rw [wk]; have := hw.1; have := hw.2.2.2.2.1; exact ⟨by omega, by omega, fun _ => by omega, by omega⟩
  | succ n ih =>
    rw [wk_suc]
    by_cases c : α 12 (wk α l r p d n 0) = 0
    · rw [if_pos c]; exact ⟨ih.1, ih.2.1, fun z => absurd c z, by omega⟩
    · rw [if_neg c]
      have k := kid_p (l := l) (r := r) (p := p) (d := d) hw ih.1 ih.2.1 c
      have e := ih.2.2.1 c
      exact ⟨by omega, by omega, fun _ => by omega, by omega⟩
theorem wk_stay {α : St} {l r p d : Int} {j : Nat} (h : α 12 (wk α l r p d j 0) = 0) : ∀ m, wk α l r p d (j + m) 0 = wk α l r p d j 0 := by
  intro m
  induction m with
  | zero => rfl
  | succ m ih => rw [← Nat.add_assoc, wk_suc, ih, if_pos h]
theorem wk_lt {α : St} {l r p d : Int} (hw : wT α) {j : Nat} (hj : (j : Int) < α 17 (wk α l r p d 7 0)) : ¬ α 12 (wk α l r p d j 0) = 0 := by
  intro c
  have k := wk_in (l := l) (r := r) (p := p) (d := d) hw j
  have k7 := wk_in (l := l) (r := r) (p := p) (d := d) hw 7
  have e := wk_stay c (7 - j)
  rw [show j + (7 - j) = 7 by omega] at e
  rw [e] at hj
  omega
theorem wk_dep {α : St} {l r p d : Int} (hw : wT α) {j : Nat} (hj : (j : Int) ≤ α 17 (wk α l r p d 7 0)) : α 17 (wk α l r p d j 0) = j := by
  have k := wk_in (l := l) (r := r) (p := p) (d := d) hw j
  have k7 := wk_in (l := l) (r := r) (p := p) (d := d) hw 7
  by_cases c : α 12 (wk α l r p d j 0) = 0
  · have e := wk_stay c (7 - j)
    rw [show j + (7 - j) = 7 by omega] at e
    rw [e] at hj
    omega
  · exact k.2.2.1 c
theorem wk_up {α : St} {l r p d : Int} (hw : wT α) {j : Nat} (hj : (j : Int) < α 17 (wk α l r p d 7 0)) : α 16 (wk α l r p d (j + 1) 0) = wk α l r p d j 0 := by
  have c := wk_lt hw hj
  have k := wk_in (l := l) (r := r) (p := p) (d := d) hw j
  rw [wk_suc, if_neg c]
  exact (kid_p hw k.1 k.2.1 c).2.2.1
theorem wk_end {α : St} {l r p d : Int} (hw : wT α) {j : Nat} (hj : (j : Int) = α 17 (wk α l r p d 7 0)) : wk α l r p d j 0 = wk α l r p d 7 0 := by
  have k := wk_in (l := l) (r := r) (p := p) (d := d) hw j
  have k7 := wk_in (l := l) (r := r) (p := p) (d := d) hw 7
  have e := wk_dep (l := l) (r := r) (p := p) (d := d) hw (j := j) (by omega)
  by_cases c : α 12 (wk α l r p d j 0) = 0
  · have e := wk_stay c (7 - j)
    rw [show j + (7 - j) = 7 by omega] at e
    exact e.symm
  · exfalso
    have k2 := kid_p (l := l) (r := r) (p := p) (d := d) hw k.1 k.2.1 c
    have k3 := wk_in (l := l) (r := r) (p := p) (d := d) hw (j + 1)
    have e3 : wk α l r p d (j + 1) 0 = kid α (wk α l r p d j 0) l r p d := by rw [wk_suc, if_neg c]
    by_cases c7 : j = 7
    · subst c7
      exact c (deep_leaf hw k.1 k.2.1 (by omega))
    · by_cases c4 : α 12 (wk α l r p d (j + 1) 0) = 0
      · have e5 := wk_stay c4 (7 - (j + 1))
        rw [show j + 1 + (7 - (j + 1)) = 7 by omega, e3] at e5
        rw [e5] at hj
        omega
      · have : ∀ m : Nat, (j : Int) + m ≤ 7 → α 17 (wk α l r p d (j + m) 0) ≥ j + (if m = 0 then 0 else 1) := by
          intro m
          induction m with
          | zero => intro _; simp; omega
          | succ m ih =>
            intro hm
            have ih := ih (by omega)
            rw [← Nat.add_assoc, wk_suc]
            have kk := wk_in (l := l) (r := r) (p := p) (d := d) hw (j + m)
            by_cases c5 : α 12 (wk α l r p d (j + m) 0) = 0
            · rw [if_pos c5]
              by_cases c6 : m = 0
              · subst c6; exact absurd c5 c
              · rw [if_neg c6] at ih; rw [if_neg (by omega)]; exact ih
            · rw [if_neg c5, if_neg (by omega)]
              have k6 := kid_p (l := l) (r := r) (p := p) (d := d) hw kk.1 kk.2.1 c5
              have k8 := kk.2.2.1 c5
              omega
        have q := this (7 - j) (by omega)
        rw [show j + (7 - j) = 7 by omega, if_neg (by omega)] at q
        omega
def pU (α : St) (u : Int) (j : Nat) : Int := wk α (α 2 u) (α 3 u) (α 4 u) (α 5 u) j 0
def pT (α : St) (k : Int) (j : Nat) : Int := wk α (tL α k) (tR α k) (α 8 k) (α 9 k) j 0
def dU (α : St) (u : Int) : Int := α 17 (lfU α u)
def dT (α : St) (k : Int) : Int := α 17 (lfT α k)
def yU (α : St) (u i : Int) : Int := yes α i (α 2 u) (α 3 u) (α 4 u) (α 5 u)
def yT (α : St) (k i : Int) : Int := yes α i (tL α k) (tR α k) (α 8 k) (α 9 k)
theorem dT_r {α : St} {k : Int} (hw : wT α) : 0 ≤ dT α k ∧ dT α k ≤ 7 := by
  have e := lfT_p (k := k) hw
  exact (hw.2.2.2.2.2 _ e.1 e.2.1).2.1
theorem dU_r {α : St} {u : Int} (hw : wT α) : 0 ≤ dU α u ∧ dU α u ≤ 7 := by
  have e := lfU_p (u := u) hw
  exact (hw.2.2.2.2.2 _ e.1 e.2.1).2.1
/-- the ways of the unit and of the target are one at j -/
def eqW (α : St) (u k : Int) (j : Nat) : Prop := (j : Int) ≤ dU α u ∧ (j : Int) ≤ dT α k ∧ pU α u j = pT α k j
theorem eqW_d {α : St} {u k : Int} (hw : wT α) : ∀ (m j : Nat), eqW α u k (j + m) → eqW α u k j := by
  intro m
  induction m with
  | zero => intro j h; exact h
  | succ m ih =>
    intro j h
    apply ih
    obtain ⟨h1, h2, h3⟩ := h
    rw [← Nat.add_assoc] at h3
    have a := wk_up (l := α 2 u) (r := α 3 u) (p := α 4 u) (d := α 5 u) hw (j := j + m) (by unfold dU lfU at h1; omega)
    have b := wk_up (l := tL α k) (r := tR α k) (p := α 8 k) (d := α 9 k) hw (j := j + m) (by unfold dT lfT at h2; omega)
    unfold pU pT at h3
    rw [h3, b] at a
    exact ⟨by omega, by omega, a.symm⟩
theorem eqW_s {α : St} {u k : Int} (hw : wT α) {j : Nat} (h : eqW α u k j) (hn : ¬ α 12 (pT α k j) = 0) : (yU α u (pT α k j) = yT α k (pT α k j) → eqW α u k (j + 1)) ∧ (eqW α u k (j + 1) → yU α u (pT α k j) = yT α k (pT α k j)) := by
  obtain ⟨h1, h2, h3⟩ := h
  have i1 := wk_in (l := tL α k) (r := tR α k) (p := α 8 k) (d := α 9 k) hw j
  have hu : ¬ α 12 (pU α u j) = 0 := by rw [h3]; exact hn
  have eT : pT α k (j + 1) = kid α (pT α k j) (tL α k) (tR α k) (α 8 k) (α 9 k) := by unfold pT at hn ⊢; rw [wk_suc, if_neg hn]
  have eU : pU α u (j + 1) = kid α (pT α k j) (α 2 u) (α 3 u) (α 4 u) (α 5 u) := by rw [← h3]; unfold pU at hu ⊢; rw [wk_suc, if_neg hu]
  have jT : (j : Int) < dT α k := by
    by_cases c : (j : Int) = dT α k
    · exfalso
      have := wk_end (l := tL α k) (r := tR α k) (p := α 8 k) (d := α 9 k) hw (j := j) c
      apply hn
      unfold pT
      rw [this]
      exact (lfT_p hw).2.2
    · omega
  have jU : (j : Int) < dU α u := by
    by_cases c : (j : Int) = dU α u
    · exfalso
      have := wk_end (l := α 2 u) (r := α 3 u) (p := α 4 u) (d := α 5 u) hw (j := j) c
      apply hu
      unfold pU
      rw [this]
      exact (lfU_p hw).2.2
    · omega
  have i2 : 0 ≤ pT α k j ∧ pT α k j < α 0 7 := ⟨i1.1, i1.2.1⟩
  have nd := ((hw.2.2.2.2.2 _ i2.1 i2.2).2.2.2 hn).2.2.2.1
  constructor
  · intro hy
    refine ⟨by omega, by omega, ?_⟩
    rw [eT, eU]
    unfold kid
    unfold yU yT at hy
    rw [hy]
  · intro he
    have e := he.2.2
    rw [eT, eU] at e
    unfold kid at e
    have r1 := yes_r (α := α) (i := pT α k j) (l := α 2 u) (r := α 3 u) (p := α 4 u) (d := α 5 u)
    have r2 := yes_r (α := α) (i := pT α k j) (l := tL α k) (r := tR α k) (p := α 8 k) (d := α 9 k)
    unfold yU yT
    rcases r1 with r1 | r1 <;> rcases r2 with r2 | r2 <;> rw [r1, r2] at e ⊢
    · simp at e; exact absurd e.symm nd
    · simp at e; exact absurd e nd
/-- how far a unit goes along with a target -/
def agG (α : St) (u k : Int) : Nat → Int → Int → Int
  | 0, _, x => x
  | n + 1, i, x => if α 12 i = 0 then x else if yU α u i = yT α k i then agG α u k n (kid α i (tL α k) (tR α k) (α 8 k) (α 9 k)) (x + 1) else x
def ag (α : St) (u k : Int) : Int := agG α u k 7 0 0
theorem agG_p {α : St} {u k : Int} (hw : wT α) : ∀ (n x : Nat), x + n = 7 → eqW α u k x → (x : Int) ≤ agG α u k n (pT α k x) x ∧ agG α u k n (pT α k x) x ≤ dT α k ∧ ∀ j : Nat, (j : Int) ≤ dT α k → (eqW α u k j ↔ (j : Int) ≤ agG α u k n (pT α k x) x) := by
  intro n
  have hdT := dT_r (k := k) hw
  have fin : ∀ x : Nat, eqW α u k x → (∀ j : Nat, (x : Int) < j → ¬ eqW α u k j) → (x : Int) ≤ x ∧ (x : Int) ≤ dT α k ∧ ∀ j : Nat, (j : Int) ≤ dT α k → (eqW α u k j ↔ (j : Int) ≤ x) := by
    intro x hx hn
    refine ⟨by omega, hx.2.1, fun j hj => ⟨fun h => ?_, fun h => ?_⟩⟩
    · by_cases c : (j : Int) ≤ x
      · exact c
      · exact absurd h (hn j (by omega))
    · exact eqW_d hw (x - j) j (by rw [show j + (x - j) = x by omega]; exact hx)
  induction n with
  | zero =>
    intro x hx h
    rw [agG]
    refine fin x h (fun j hj z => ?_)
    have := z.2.1
    omega
  | succ n ih =>
    intro x hx h
    rw [agG]
    have i1 := wk_in (l := tL α k) (r := tR α k) (p := α 8 k) (d := α 9 k) hw x
    by_cases c : α 12 (pT α k x) = 0
    · rw [if_pos c]
      refine fin x h (fun j hj z => ?_)
      have z2 := z.2.1
      exact wk_lt (l := tL α k) (r := tR α k) (p := α 8 k) (d := α 9 k) hw (j := x) (by unfold dT lfT at z2; omega) c
    · rw [if_neg c]
      have q := eqW_s hw h c
      by_cases c2 : yU α u (pT α k x) = yT α k (pT α k x)
      · rw [if_pos c2]
        have g := ih (x + 1) (by omega) (q.1 c2)
        have eT : pT α k (x + 1) = kid α (pT α k x) (tL α k) (tR α k) (α 8 k) (α 9 k) := by unfold pT at c ⊢; rw [wk_suc, if_neg c]
        rw [eT] at g
        rw [show ((x + 1 : Nat) : Int) = (x : Int) + 1 by omega] at g
        exact ⟨by omega, g.2.1, g.2.2⟩
      · rw [if_neg c2]
        refine fin x h (fun j hj z => c2 (q.2 ?_))
        exact eqW_d hw (j - (x + 1)) (x + 1) (by rw [show x + 1 + (j - (x + 1)) = j by omega]; exact z)
theorem ag_p {α : St} {u k : Int} (hw : wT α) : 0 ≤ ag α u k ∧ ag α u k ≤ dT α k ∧ ∀ j : Nat, (j : Int) ≤ dT α k → (eqW α u k j ↔ (j : Int) ≤ ag α u k) := by
  have h0 : eqW α u k 0 := ⟨by have := dU_r (u := u) hw; omega, by have := dT_r (k := k) hw; omega, rfl⟩
  exact agG_p hw 7 0 (by omega) h0
/-! the reference's ways -/
theorem m_along {σ α : St} {u k : Int} (kx : Int → Option Int) (h : JM σ α) (hw : WF α) (h0 : 0 ≤ u) (h1 : u < α 0 0) (h2 : 0 ≤ k) (h3 : k < α 0 1) : ∀ (m : Nat) (i x : Int) (n : Nat), 0 ≤ i → i < α 0 7 → α 17 i + m = 7 → m < n → lp_X10_goesAlong_5 σ u k kx n i x = kx (agG α u k m i x) := by
  have w1 := hw.2.2.2.2.1
  intro m
  induction m with
  | zero =>
    intro i x n i0 i1 i2 hn
    obtain ⟨n, rfl⟩ : ∃ k, n = k + 1 := ⟨n - 1, by omega⟩
    obtain ⟨a1, a2, a3⟩ := h.2.2.2.2.2.2 i i0 i1
    have c := deep_leaf hw.2.2.2.2 i0 i1 (by omega)
    rw [lp_X10_goesAlong_5, agG]
    simp (disch := omega) only [↓rdA_t, ↓wrA_t, ↓ixA_t, ↓wrF_d, ↓bd2_s, ↓bd1_s, ↓bnd_d, ↓iww_t, ↓iww_f, ↓iwl_t, ↓iwl_f, ↓ilw_t, ↓ilw_f, ↓eww_t, ↓eww_f, ↓ewl_t, ↓ewl_f, ↓ez_t, ↓ez_f, ↓il_t, ↓il_f, il_t, il_f, ez_t, ez_f, if_true, if_false, upS_h, upS_o, upS_i, Int.reduceAdd, Int.reduceSub, Int.reduceMul, Int.reduceNeg, wI_id, a1, c]
  | succ m ih =>
    intro i x n i0 i1 i2 hn
    obtain ⟨n, rfl⟩ : ∃ k, n = k + 1 := ⟨n - 1, by omega⟩
    obtain ⟨a1, a2, a3⟩ := h.2.2.2.2.2.2 i i0 i1
    have k1 := (hw.2.2.2.2.2.2.2.2.2 i i0 i1).1
    rw [lp_X10_goesAlong_5, agG]
    by_cases c : α 12 i = 0
    · simp (disch := omega) only [↓rdA_t, ↓wrA_t, ↓ixA_t, ↓wrF_d, ↓bd2_s, ↓bd1_s, ↓bnd_d, ↓iww_t, ↓iww_f, ↓iwl_t, ↓iwl_f, ↓ilw_t, ↓ilw_f, ↓eww_t, ↓eww_f, ↓ewl_t, ↓ewl_f, ↓ez_t, ↓ez_f, ↓il_t, ↓il_f, il_t, il_f, ez_t, ez_f, if_true, if_false, upS_h, upS_o, upS_i, Int.reduceAdd, Int.reduceSub, Int.reduceMul, Int.reduceNeg, wI_id, a1, c]
    · have kp := kid_p (l := tL α k) (r := tR α k) (p := α 8 k) (d := α 9 k) hw.2.2.2.2 i0 i1 c
      have g := ih (kid α i (tL α k) (tR α k) (α 8 k) (α 9 k)) (x + 1) n (by omega) kp.2.1 (by omega) (by omega)
      rw [if_neg c]
      by_cases c0 : yU α u i = yT α k i
      · rw [if_pos c0, ← g]
        unfold yU yT at c0
        unfold kid at kp ⊢
        by_cases c2 : yes α i (tL α k) (tR α k) (α 8 k) (α 9 k) = 0
        · rw [if_pos c2] at kp ⊢
          simp (disch := omega) only [↓rdA_t, ↓wrA_t, ↓ixA_t, ↓wrF_d, ↓bd2_s, ↓bd1_s, ↓bnd_d, ↓iww_t, ↓iww_f, ↓iwl_t, ↓iwl_f, ↓ilw_t, ↓ilw_f, ↓eww_t, ↓eww_f, ↓ewl_t, ↓ewl_f, ↓ez_t, ↓ez_f, ↓il_t, ↓il_f, il_t, il_f, ez_t, ez_f, if_true, if_false, upS_h, upS_o, upS_i, Int.reduceAdd, Int.reduceSub, Int.reduceMul, Int.reduceNeg, wI_id, a1, m_tAns h hw i0 i1 c h2 h3, m_uAns h hw i0 i1 c h0 h1, (a3 c).2]
        · rw [if_neg c2] at kp ⊢
          simp (disch := omega) only [↓rdA_t, ↓wrA_t, ↓ixA_t, ↓wrF_d, ↓bd2_s, ↓bd1_s, ↓bnd_d, ↓iww_t, ↓iww_f, ↓iwl_t, ↓iwl_f, ↓ilw_t, ↓ilw_f, ↓eww_t, ↓eww_f, ↓ewl_t, ↓ewl_f, ↓ez_t, ↓ez_f, ↓il_t, ↓il_f, il_t, il_f, ez_t, ez_f, if_true, if_false, upS_h, upS_o, upS_i, Int.reduceAdd, Int.reduceSub, Int.reduceMul, Int.reduceNeg, wI_id, a1, m_tAns h hw i0 i1 c h2 h3, m_uAns h hw i0 i1 c h0 h1, (a3 c).1]
      · rw [if_neg c0]
        unfold yU yT at c0
        simp (disch := omega) only [↓rdA_t, ↓wrA_t, ↓ixA_t, ↓wrF_d, ↓bd2_s, ↓bd1_s, ↓bnd_d, ↓iww_t, ↓iww_f, ↓iwl_t, ↓iwl_f, ↓ilw_t, ↓ilw_f, ↓eww_t, ↓eww_f, ↓ewl_t, ↓ewl_f, ↓ez_t, ↓ez_f, ↓il_t, ↓il_f, il_t, il_f, ez_t, ez_f, if_true, if_false, upS_h, upS_o, upS_i, Int.reduceAdd, Int.reduceSub, Int.reduceMul, Int.reduceNeg, wI_id, a1, m_tAns h hw i0 i1 c h2 h3, m_uAns h hw i0 i1 c h0 h1]
theorem m_ag {σ α : St} {u k : Int} (h : JM σ α) (hw : WF α) (h0 : 0 ≤ u) (h1 : u < α 0 0) (h2 : 0 ≤ k) (h3 : k < α 0 1) : f_X10_goesAlong σ u k = some (ag α u k) := by
  unfold f_X10_goesAlong ag
  exact m_along _ h hw h0 h1 h2 h3 7 0 0 1000 (by omega) (by have := hw.2.2.2.2.1; omega) (by have := hw.2.2.2.2.2.2.2.2.1; omega) (by omega)
theorem m_way_g {σ α : St} {k : Int} (kx : Int → Option Int) (h : JM σ α) (hw : WF α) (h2 : 0 ≤ k) (h3 : k < α 0 1) : ∀ (m : Nat) (i x : Int) (n : Nat), 0 ≤ i → i < α 0 7 → α 17 i + m = 7 → α 17 i = x → m < n → lp_X10_wayLong_4 σ k kx n i x = kx (α 17 (wk α (tL α k) (tR α k) (α 8 k) (α 9 k) m i)) := by
  have w1 := hw.2.2.2.2.1
  intro m
  induction m with
  | zero =>
    intro i x n i0 i1 i2 i3 hn
    obtain ⟨n, rfl⟩ : ∃ k, n = k + 1 := ⟨n - 1, by omega⟩
    obtain ⟨a1, a2, a3⟩ := h.2.2.2.2.2.2 i i0 i1
    have c := deep_leaf hw.2.2.2.2 i0 i1 (by omega)
    rw [lp_X10_wayLong_4, wk, i3]
    simp (disch := omega) only [↓rdA_t, ↓wrA_t, ↓ixA_t, ↓wrF_d, ↓bd2_s, ↓bd1_s, ↓bnd_d, ↓iww_t, ↓iww_f, ↓iwl_t, ↓iwl_f, ↓ilw_t, ↓ilw_f, ↓eww_t, ↓eww_f, ↓ewl_t, ↓ewl_f, ↓ez_t, ↓ez_f, ↓il_t, ↓il_f, il_t, il_f, ez_t, ez_f, if_true, if_false, upS_h, upS_o, upS_i, Int.reduceAdd, Int.reduceSub, Int.reduceMul, Int.reduceNeg, wI_id, a1, c]
  | succ m ih =>
    intro i x n i0 i1 i2 i3 hn
    obtain ⟨n, rfl⟩ : ∃ k, n = k + 1 := ⟨n - 1, by omega⟩
    obtain ⟨a1, a2, a3⟩ := h.2.2.2.2.2.2 i i0 i1
    have k1 := (hw.2.2.2.2.2.2.2.2.2 i i0 i1).1
    rw [lp_X10_wayLong_4, wk]
    by_cases c : α 12 i = 0
    · rw [if_pos c, i3]
      simp (disch := omega) only [↓rdA_t, ↓wrA_t, ↓ixA_t, ↓wrF_d, ↓bd2_s, ↓bd1_s, ↓bnd_d, ↓iww_t, ↓iww_f, ↓iwl_t, ↓iwl_f, ↓ilw_t, ↓ilw_f, ↓eww_t, ↓eww_f, ↓ewl_t, ↓ewl_f, ↓ez_t, ↓ez_f, ↓il_t, ↓il_f, il_t, il_f, ez_t, ez_f, if_true, if_false, upS_h, upS_o, upS_i, Int.reduceAdd, Int.reduceSub, Int.reduceMul, Int.reduceNeg, wI_id, a1, c]
    · have kp := kid_p (l := tL α k) (r := tR α k) (p := α 8 k) (d := α 9 k) hw.2.2.2.2 i0 i1 c
      have g := ih (kid α i (tL α k) (tR α k) (α 8 k) (α 9 k)) (x + 1) n (by omega) kp.2.1 (by omega) (by omega) (by omega)
      rw [if_neg c, ← g]
      unfold kid at kp ⊢
      by_cases c2 : yes α i (tL α k) (tR α k) (α 8 k) (α 9 k) = 0
      · rw [if_pos c2] at kp ⊢
        simp (disch := omega) only [↓rdA_t, ↓wrA_t, ↓ixA_t, ↓wrF_d, ↓bd2_s, ↓bd1_s, ↓bnd_d, ↓iww_t, ↓iww_f, ↓iwl_t, ↓iwl_f, ↓ilw_t, ↓ilw_f, ↓eww_t, ↓eww_f, ↓ewl_t, ↓ewl_f, ↓ez_t, ↓ez_f, ↓il_t, ↓il_f, il_t, il_f, ez_t, ez_f, if_true, if_false, upS_h, upS_o, upS_i, Int.reduceAdd, Int.reduceSub, Int.reduceMul, Int.reduceNeg, wI_id, a1, m_tAns h hw i0 i1 c h2 h3, (a3 c).2]
      · rw [if_neg c2] at kp ⊢
        simp (disch := omega) only [↓rdA_t, ↓wrA_t, ↓ixA_t, ↓wrF_d, ↓bd2_s, ↓bd1_s, ↓bnd_d, ↓iww_t, ↓iww_f, ↓iwl_t, ↓iwl_f, ↓ilw_t, ↓ilw_f, ↓eww_t, ↓eww_f, ↓ewl_t, ↓ewl_f, ↓ez_t, ↓ez_f, ↓il_t, ↓il_f, il_t, il_f, ez_t, ez_f, if_true, if_false, upS_h, upS_o, upS_i, Int.reduceAdd, Int.reduceSub, Int.reduceMul, Int.reduceNeg, wI_id, a1, m_tAns h hw i0 i1 c h2 h3, (a3 c).1]
theorem m_way {σ α : St} {k : Int} (h : JM σ α) (hw : WF α) (h2 : 0 ≤ k) (h3 : k < α 0 1) : f_X10_wayLong σ k = some (dT α k) := by
  unfold f_X10_wayLong dT lfT
  have e := hw.2.2.2.2.2.2.2.2.1
  exact m_way_g _ h hw h2 h3 7 0 0 1000 (by omega) (by have := hw.2.2.2.2.1; omega) (by omega) e (by omega)
/-! the component's: which leaves lie under a node of the target's way -/
theorem c_above {σ α : St} {i : Int} (h : cT σ α) (hw : wT α) (h0 : 0 ≤ i) (h1 : i < α 0 7) : f_X7_nodeAbove σ 14 i = some (α 16 i) := by
  have w := hw.1
  have hs := h.1
  have e := (h.2.2.2 i h0 h1).2.1
  unfold f_X7_nodeAbove
  simp (disch := omega) only [↓rdA_t, ↓wrA_t, ↓ixA_t, ↓wrF_d, ↓bd2_s, ↓bd1_s, ↓bnd_d, ↓iww_t, ↓iww_f, ↓iwl_t, ↓iwl_f, ↓ilw_t, ↓ilw_f, ↓eww_t, ↓eww_f, ↓ewl_t, ↓ewl_f, ↓ez_t, ↓ez_f, ↓il_t, ↓il_f, il_t, il_f, ez_t, ez_f, if_true, if_false, upS_h, upS_o, upS_i, Int.reduceAdd, Int.reduceSub, Int.reduceMul, Int.reduceNeg, wI_id, e]
theorem c_under_g {σ α : St} {u k : Int} {j : Nat} (h : cT σ α) (hw : wT α) (hj : (j : Int) ≤ dT α k) : ∀ (m : Nat) (x : Int) (n : Nat), (m : Int) ≤ dU α u → x + m ≤ 7 → 0 ≤ x → m + 1 < n → (∀ m' : Nat, (m : Int) < m' → (m' : Int) ≤ dU α u → ¬ pU α u m' = pT α k j) → lp_X7_liesUnder_5 σ 14 (pT α k j) (fun y5 => jn_X7_liesUnder_34 σ (pT α k j) y5) n (pU α u m) x = some (if (j : Int) ≤ ag α u k then 1 else 0) := by
  have w1 := hw.1
  have y1 := wk_in (l := tL α k) (r := tR α k) (p := α 8 k) (d := α 9 k) hw j
  have y2 : 0 ≤ pT α k j ∧ pT α k j < α 0 7 := ⟨y1.1, y1.2.1⟩
  have y3 : α 17 (pT α k j) = j := wk_dep hw hj
  have hit : ∀ m : Nat, (m : Int) ≤ dU α u → pU α u m = pT α k j → (j : Int) ≤ ag α u k := by
    intro m hm e
    have d : α 17 (pU α u m) = m := wk_dep hw hm
    rw [e, y3] at d
    have : m = j := by omega
    subst this
    exact ((ag_p hw).2.2 m hj).1 ⟨hm, hj, e⟩
  have mis : (∀ m' : Nat, (m' : Int) ≤ dU α u → ¬ pU α u m' = pT α k j) → ¬ (j : Int) ≤ ag α u k := by
    intro hm z
    have e := ((ag_p hw).2.2 j hj).2 z
    exact hm j e.1 e.2.2
  intro m
  induction m with
  | zero =>
    intro x n hm h2 h3 hn hno
    obtain ⟨n, rfl⟩ : ∃ k, n = k + 2 := ⟨n - 2, by omega⟩
    have e0 : pU α u 0 = 0 := rfl
    rw [e0]
    rw [lp_X7_liesUnder_5]
    unfold jn_X7_liesUnder_34
    by_cases c : pT α k j = 0
    · rw [if_pos (hit 0 hm (by rw [e0, c]))]
      by_cases c2 : x < 7
      · simp (disch := omega) only [↓rdA_t, ↓wrA_t, ↓ixA_t, ↓wrF_d, ↓bd2_s, ↓bd1_s, ↓bnd_d, ↓iww_t, ↓iww_f, ↓iwl_t, ↓iwl_f, ↓ilw_t, ↓ilw_f, ↓eww_t, ↓eww_f, ↓ewl_t, ↓ewl_f, ↓ez_t, ↓ez_f, ↓il_t, ↓il_f, il_t, il_f, ez_t, ez_f, if_true, if_false, upS_h, upS_o, upS_i, Int.reduceAdd, Int.reduceSub, Int.reduceMul, Int.reduceNeg, wI_id, c]
      · simp (disch := omega) only [↓rdA_t, ↓wrA_t, ↓ixA_t, ↓wrF_d, ↓bd2_s, ↓bd1_s, ↓bnd_d, ↓iww_t, ↓iww_f, ↓iwl_t, ↓iwl_f, ↓ilw_t, ↓ilw_f, ↓eww_t, ↓eww_f, ↓ewl_t, ↓ewl_f, ↓ez_t, ↓ez_f, ↓il_t, ↓il_f, il_t, il_f, ez_t, ez_f, if_true, if_false, upS_h, upS_o, upS_i, Int.reduceAdd, Int.reduceSub, Int.reduceMul, Int.reduceNeg, wI_id, c]
    · have q := mis (fun m' hm' => by
        by_cases c3 : m' = 0
        · subst c3; rw [e0]; exact fun z => c z.symm
        · exact hno m' (by omega) hm')
      rw [if_neg q]
      by_cases c2 : x < 7
      · simp (disch := omega) only [↓rdA_t, ↓wrA_t, ↓ixA_t, ↓wrF_d, ↓bd2_s, ↓bd1_s, ↓bnd_d, ↓iww_t, ↓iww_f, ↓iwl_t, ↓iwl_f, ↓ilw_t, ↓ilw_f, ↓eww_t, ↓eww_f, ↓ewl_t, ↓ewl_f, ↓ez_t, ↓ez_f, ↓il_t, ↓il_f, il_t, il_f, ez_t, ez_f, if_true, if_false, upS_h, upS_o, upS_i, Int.reduceAdd, Int.reduceSub, Int.reduceMul, Int.reduceNeg, wI_id, c_above h hw (i := 0) (by omega) (by omega), hw.2.2.2.1]
        rw [lp_X7_liesUnder_5]
        by_cases c4 : x + 1 < 7
        · simp (disch := omega) only [↓rdA_t, ↓wrA_t, ↓ixA_t, ↓wrF_d, ↓bd2_s, ↓bd1_s, ↓bnd_d, ↓iww_t, ↓iww_f, ↓iwl_t, ↓iwl_f, ↓ilw_t, ↓ilw_f, ↓eww_t, ↓eww_f, ↓ewl_t, ↓ewl_f, ↓ez_t, ↓ez_f, ↓il_t, ↓il_f, il_t, il_f, ez_t, ez_f, if_true, if_false, upS_h, upS_o, upS_i, Int.reduceAdd, Int.reduceSub, Int.reduceMul, Int.reduceNeg, wI_id]
        · simp (disch := omega) only [↓rdA_t, ↓wrA_t, ↓ixA_t, ↓wrF_d, ↓bd2_s, ↓bd1_s, ↓bnd_d, ↓iww_t, ↓iww_f, ↓iwl_t, ↓iwl_f, ↓ilw_t, ↓ilw_f, ↓eww_t, ↓eww_f, ↓ewl_t, ↓ewl_f, ↓ez_t, ↓ez_f, ↓il_t, ↓il_f, il_t, il_f, ez_t, ez_f, if_true, if_false, upS_h, upS_o, upS_i, Int.reduceAdd, Int.reduceSub, Int.reduceMul, Int.reduceNeg, wI_id]
      · simp (disch := omega) only [↓rdA_t, ↓wrA_t, ↓ixA_t, ↓wrF_d, ↓bd2_s, ↓bd1_s, ↓bnd_d, ↓iww_t, ↓iww_f, ↓iwl_t, ↓iwl_f, ↓ilw_t, ↓ilw_f, ↓eww_t, ↓eww_f, ↓ewl_t, ↓ewl_f, ↓ez_t, ↓ez_f, ↓il_t, ↓il_f, il_t, il_f, ez_t, ez_f, if_true, if_false, upS_h, upS_o, upS_i, Int.reduceAdd, Int.reduceSub, Int.reduceMul, Int.reduceNeg, wI_id]
  | succ m ih =>
    intro x n hm h2 h3 hn hno
    obtain ⟨n, rfl⟩ : ∃ k, n = k + 1 := ⟨n - 1, by omega⟩
    have u1 := wk_in (l := α 2 u) (r := α 3 u) (p := α 4 u) (d := α 5 u) hw (m + 1)
    have u2 : 0 ≤ pU α u (m + 1) ∧ pU α u (m + 1) < α 0 7 := ⟨u1.1, u1.2.1⟩
    rw [lp_X7_liesUnder_5]
    by_cases c : pU α u (m + 1) = pT α k j
    · rw [if_pos (hit (m + 1) hm c)]
      unfold jn_X7_liesUnder_34
      simp (disch := omega) only [↓rdA_t, ↓wrA_t, ↓ixA_t, ↓wrF_d, ↓bd2_s, ↓bd1_s, ↓bnd_d, ↓iww_t, ↓iww_f, ↓iwl_t, ↓iwl_f, ↓ilw_t, ↓ilw_f, ↓eww_t, ↓eww_f, ↓ewl_t, ↓ewl_f, ↓ez_t, ↓ez_f, ↓il_t, ↓il_f, il_t, il_f, ez_t, ez_f, if_true, if_false, upS_h, upS_o, upS_i, Int.reduceAdd, Int.reduceSub, Int.reduceMul, Int.reduceNeg, wI_id, c]
    · have up : α 16 (pU α u (m + 1)) = pU α u m := wk_up hw (by unfold dU lfU at hm; omega)
      have g := ih (x + 1) n (by omega) (by omega) (by omega) (by omega) (fun m' a b => by
        by_cases c3 : m' = m + 1
        · subst c3; exact c
        · exact hno m' (by omega) b)
      rw [← g]
      simp (disch := omega) only [↓rdA_t, ↓wrA_t, ↓ixA_t, ↓wrF_d, ↓bd2_s, ↓bd1_s, ↓bnd_d, ↓iww_t, ↓iww_f, ↓iwl_t, ↓iwl_f, ↓ilw_t, ↓ilw_f, ↓eww_t, ↓eww_f, ↓ewl_t, ↓ewl_f, ↓ez_t, ↓ez_f, ↓il_t, ↓il_f, il_t, il_f, ez_t, ez_f, if_true, if_false, upS_h, upS_o, upS_i, Int.reduceAdd, Int.reduceSub, Int.reduceMul, Int.reduceNeg, wI_id, c_above h hw u2.1 u2.2, up]
theorem c_under {σ α : St} {u k : Int} {j : Nat} (h : cT σ α) (hw : wT α) (hj : (j : Int) ≤ dT α k) : f_X7_liesUnder σ 14 (lfU α u) (pT α k j) = some (if (j : Int) ≤ ag α u k then 1 else 0) := by
  unfold f_X7_liesUnder
  have r := dU_r (u := u) hw
  have e : pU α u (dU α u).toNat = lfU α u := wk_end hw (by unfold dU lfU at r ⊢; omega)
  rw [← e]
  exact c_under_g h hw hj (dU α u).toNat 0 1000 (by omega) (by omega) (by omega) (by omega) (fun m' a b => by omega)
end
section
/-! ===== gathering ===== -/
def cnt (P : Int → Prop) [DecidablePred P] : Nat → Int
  | 0 => 0
  | m + 1 => if P m then cnt P m + 1 else cnt P m
def arr (P : Int → Prop) [DecidablePred P] : Nat → Int → Int
  | 0, _ => 0
  | m + 1, i => if P m then (if i = cnt P m then (m : Int) else arr P m i) else arr P m i
theorem cnt_r {P : Int → Prop} [DecidablePred P] : ∀ m : Nat, 0 ≤ cnt P m ∧ cnt P m ≤ m := by
  intro m
  induction m with
  | zero => rw [cnt]; omega
  | succ m ih =>
    rw [cnt]
    by_cases c : P m
    · rw [if_pos c]; omega
    · rw [if_neg c]; omega
theorem cnt_z {P : Int → Prop} [DecidablePred P] : ∀ m : Nat, cnt P m = 0 → ∀ u : Nat, u < m → ¬ P u := by
  intro m
  induction m with
  | zero => intro _ u hu; omega
  | succ m ih =>
    intro h u hu
    have r := cnt_r (P := P) m
    rw [cnt] at h
    by_cases c : P m
    · rw [if_pos c] at h; omega
    · rw [if_neg c] at h
      by_cases c2 : u = m
      · rw [c2]; exact c
      · exact ih h u (by omega)
theorem cnt_n {P : Int → Prop} [DecidablePred P] : ∀ m : Nat, (∀ u : Nat, u < m → ¬ P u) → cnt P m = 0 := by
  intro m
  induction m with
  | zero => intro _; rfl
  | succ m ih =>
    intro h
    rw [cnt, if_neg (h m (by omega))]
    exact ih (fun u hu => h u (by omega))
theorem cnt_e {P Q : Int → Prop} [DecidablePred P] [DecidablePred Q] : ∀ m : Nat, (∀ u : Nat, u < m → (P u ↔ Q u)) → cnt P m = cnt Q m ∧ ∀ i, arr P m i = arr Q m i := by
  intro m
  induction m with
  | zero => intro _; exact ⟨rfl, fun _ => rfl⟩
  | succ m ih =>
    intro h
    obtain ⟨g1, g2⟩ := ih (fun u hu => h u (by omega))
    have e := h m (by omega)
    refine ⟨?_, fun i => ?_⟩
    · rw [cnt, cnt]
      by_cases c : P m
      · rw [if_pos c, if_pos (e.1 c), g1]
      · rw [if_neg c, if_neg (fun z => c (e.2 z)), g1]
    · rw [arr, arr]
      by_cases c : P m
      · rw [if_pos c, if_pos (e.1 c), g1, g2]
      · rw [if_neg c, if_neg (fun z => c (e.2 z)), g2]
theorem arr_r {P : Int → Prop} [DecidablePred P] : ∀ (m : Nat) (i : Int), 0 ≤ i → i < cnt P m → 0 ≤ arr P m i ∧ arr P m i < m ∧ P (arr P m i) := by
  intro m
  induction m with
  | zero => intro i h1 h2; rw [cnt] at h2; omega
  | succ m ih =>
    intro i h1 h2
    rw [cnt] at h2
    rw [arr]
    by_cases c : P m
    · rw [if_pos c] at h2 ⊢
      by_cases c2 : i = cnt P m
      · rw [if_pos c2]; exact ⟨by omega, by omega, c⟩
      · rw [if_neg c2]
        have := ih i h1 (by omega)
        exact ⟨this.1, by omega, this.2.2⟩
    · rw [if_neg c] at h2 ⊢
      have := ih i h1 h2
      exact ⟨this.1, by omega, this.2.2⟩
/-- a unit of the sound, not the absent one, that goes along at least j steps -/
abbrev PL (α : St) (a k s j u : Int) : Prop := ¬ u = a ∧ α 1 u = s ∧ j ≤ ag α u k
def bsG (α : St) (a k s : Int) : Nat → Int
  | 0 => -1
  | m + 1 => if bsG α a k s m < (if ¬ (m : Int) = a ∧ α 1 m = s then ag α m k else -1) then (if ¬ (m : Int) = a ∧ α 1 m = s then ag α m k else -1) else bsG α a k s m
def bst (α : St) (a k s : Int) : Int := bsG α a k s (α 0 0).toNat
theorem bsG_p {α : St} {a k s : Int} (hw : wT α) : ∀ m : Nat, (-1 ≤ bsG α a k s m ∧ bsG α a k s m ≤ dT α k) ∧ (∀ u : Nat, u < m → ¬ (u : Int) = a → α 1 u = s → ag α u k ≤ bsG α a k s m) ∧ (0 ≤ bsG α a k s m → ∃ u : Nat, u < m ∧ PL α a k s (bsG α a k s m) u) := by
  intro m
  have hd := dT_r (k := k) hw
  induction m with
  | zero => rw [bsG]; exact ⟨by omega, fun u hu => by omega, fun z => by omega⟩
  | succ m ih =>
    obtain ⟨g1, g2, g3⟩ := ih
    rw [bsG]
    by_cases c : ¬ (m : Int) = a ∧ α 1 m = s
    · rw [if_pos c]
      have r := ag_p (u := m) (k := k) hw
      by_cases c2 : bsG α a k s m < ag α m k
      · rw [if_pos c2]
        refine ⟨by omega, fun u hu h1 h2 => ?_, fun _ => ⟨m, by omega, c.1, c.2, by omega⟩⟩
        by_cases c3 : u = m
        · rw [c3]; omega
        · have := g2 u (by omega) h1 h2; omega
      · rw [if_neg c2]
        refine ⟨g1, fun u hu h1 h2 => ?_, fun z => ?_⟩
        · by_cases c3 : u = m
          · rw [c3]; omega
          · exact g2 u (by omega) h1 h2
        · obtain ⟨u, a1, a2⟩ := g3 z
          exact ⟨u, by omega, a2⟩
    · rw [if_neg c, if_neg (show ¬ bsG α a k s m < -1 by omega)]
      refine ⟨g1, fun u hu h1 h2 => ?_, fun z => ?_⟩
      · by_cases c3 : u = m
        · subst c3; exact absurd ⟨h1, h2⟩ c
        · exact g2 u (by omega) h1 h2
      · obtain ⟨u, a1, a2⟩ := g3 z
        exact ⟨u, by omega, a2⟩
theorem bst_p {α : St} {a k s : Int} (hw : wT α) : (-1 ≤ bst α a k s ∧ bst α a k s ≤ dT α k) ∧ (∀ u : Nat, u < (α 0 0).toNat → ¬ (u : Int) = a → α 1 u = s → ag α u k ≤ bst α a k s) ∧ (0 ≤ bst α a k s → ∃ u : Nat, u < (α 0 0).toNat ∧ PL α a k s (bst α a k s) u) := bsG_p hw _
/-- the number of units that are chosen at a level -/
def chN (α : St) (a k s j : Int) : Int := cnt (PL α a k s j) (α 0 0).toNat
def chU (α : St) (a k s j i : Int) : Int := arr (PL α a k s j) (α 0 0).toNat i
theorem chN_pos {α : St} {a k s j : Int} (hw : wT α) (hj : 0 ≤ j) : 0 < chN α a k s j ↔ j ≤ bst α a k s := by
  have r := cnt_r (P := PL α a k s j) (α 0 0).toNat
  obtain ⟨b1, b2, b3⟩ := bst_p (a := a) (k := k) (s := s) hw
  unfold chN
  constructor
  · intro h
    by_cases c : j ≤ bst α a k s
    · exact c
    · exfalso
      have := cnt_n (P := PL α a k s j) (α 0 0).toNat (fun u hu z => by have := b2 u hu z.1 z.2.1; omega)
      omega
  · intro h
    by_cases c : cnt (PL α a k s j) (α 0 0).toNat = 0
    · exfalso
      obtain ⟨u, u1, u2⟩ := b3 (by omega)
      exact cnt_z _ c u u1 ⟨u2.1, u2.2.1, by omega⟩
    · omega
/-! the component's leaves of units -/
def cL (σ α : St) : Prop := ∀ u, 0 ≤ u → u < α 0 0 → σ 36 u = lfU α u
theorem c_leaves_g {α : St} (kx : St → Option (Int × St)) (hw : WF α) : ∀ (m : Nat) (σ : St) (x : Int) (n : Nat), IC σ α → x + m = α 0 0 → 0 ≤ x → (∀ u, 0 ≤ u → u < x → σ 36 u = lfU α u) → m < n → ∃ τ, lp_X2_findLeaves_2 kx n σ x = kx τ ∧ cL τ α ∧ ∀ o, ¬ o = 36 → τ o = σ o := by
  intro m
  have w1 := hw.1.2.1
  induction m with
  | zero =>
    intro σ x n h h1 h2 h3 hn
    obtain ⟨n, rfl⟩ : ∃ k, n = k + 1 := ⟨n - 1, by omega⟩
    have hs := h.1.1
    rw [lp_X2_findLeaves_2]
    refine ⟨σ, by simp (disch := omega) only [↓rdA_t, ↓wrA_t, ↓ixA_t, ↓wrF_d, ↓bd2_s, ↓bd1_s, ↓bnd_d, ↓iww_t, ↓iww_f, ↓iwl_t, ↓iwl_f, ↓ilw_t, ↓ilw_f, ↓eww_t, ↓eww_f, ↓ewl_t, ↓ewl_f, ↓ez_t, ↓ez_f, ↓il_t, ↓il_f, il_t, il_f, ez_t, ez_f, if_true, if_false, upS_h, upS_o, upS_i, Int.reduceAdd, Int.reduceSub, Int.reduceMul, Int.reduceNeg, wI_id], fun u u1 u2 => h3 u u1 (by omega), fun _ _ => rfl⟩
  | succ m ih =>
    intro σ x n h h1 h2 h3 hn
    obtain ⟨n, rfl⟩ : ∃ k, n = k + 1 := ⟨n - 1, by omega⟩
    have hs := h.1.1
    have hI : IC (upS σ 36 x (lfU α x)) α := IC_scr (fun o ho i _ => upS_o (by omega)) h
    obtain ⟨τ, g1, g2, g3⟩ := ih (upS σ 36 x (lfU α x)) (x + 1) n hI (by omega) (by omega) (fun u u1 u2 => by
      by_cases c : u = x
      · subst c; exact upS_h ⟨rfl, rfl⟩
      · rw [upS_i c]; exact h3 u u1 (by omega)) (by omega)
    rw [lp_X2_findLeaves_2]
    refine ⟨τ, ?_, g2, fun o ho => (g3 o ho).trans (upS_of ho)⟩
    simp (disch := omega) only [↓rdA_t, ↓wrA_t, ↓ixA_t, ↓wrF_d, ↓bd2_s, ↓bd1_s, ↓bnd_d, ↓iww_t, ↓iww_f, ↓iwl_t, ↓iwl_f, ↓ilw_t, ↓ilw_f, ↓eww_t, ↓eww_f, ↓ewl_t, ↓ewl_f, ↓ez_t, ↓ez_f, ↓il_t, ↓il_f, il_t, il_f, ez_t, ez_f, if_true, if_false, upS_h, upS_o, upS_i, Int.reduceAdd, Int.reduceSub, Int.reduceMul, Int.reduceNeg, wI_id, c_lfU h hw h2 (show x < α 0 0 by omega)]
    exact g1
theorem c_leaves {σ α : St} (h : IC σ α) (hw : WF α) : ∃ τ, f_X2_findLeaves σ = some (0, τ) ∧ cL τ α ∧ ∀ o, ¬ o = 36 → τ o = σ o := by
  have w1 := hw.1.1
  have w2 := hw.1.2.1
  unfold f_X2_findLeaves
  exact c_leaves_g (fun σ4 => some (0, σ4)) hw (α 0 0).toNat σ 0 1000 h (by omega) (by omega) (fun u u1 u2 => by omega) (by omega)
/-! the component gathers -/
def cC (σ : St) (o : Int) (P : Int → Prop) [DecidablePred P] (m : Nat) : Prop := σ o 1 = cnt P m ∧ ∀ i, 0 ≤ i → i < cnt P m → σ (o + 1) i = arr P m i
theorem c_gather_g {α : St} {q a k s : Int} {j : Nat} (kx : St → Option (Int × St)) (hw : WF α) (hq : 0 ≤ q ∧ q < 8) (ha : -1 ≤ a ∧ a < 40) (hs0 : 0 ≤ s ∧ s ≤ 5) (hj : (j : Int) ≤ dT α k) : ∀ (m x : Nat) (σ : St) (n : Nat), IC σ α → cL σ α → (x : Int) + m = α 0 0 → cC σ (38 + 2 * q) (PL α a k s j) x → m < n → ∃ τ, lp_X2_gather_3 (38 + 2 * q) s (pT α k j) a kx n σ x = kx τ ∧ cC τ (38 + 2 * q) (PL α a k s j) (x + m) ∧ (∀ o, ¬ o = 38 + 2 * q → ¬ o = 38 + 2 * q + 1 → τ o = σ o) ∧ ∀ i, ¬ i = 1 → τ (38 + 2 * q) i = σ (38 + 2 * q) i := by
  intro m
  have w1 := hw.1.2.1
  induction m with
  | zero =>
    intro x σ n h hl h1 hc hn
    obtain ⟨n, rfl⟩ : ∃ k, n = k + 1 := ⟨n - 1, by omega⟩
    have hs := h.1.1
    rw [lp_X2_gather_3]
    exact ⟨σ, by simp (disch := omega) only [↓rdA_t, ↓wrA_t, ↓ixA_t, ↓wrF_d, ↓bd2_s, ↓bd1_s, ↓bnd_d, ↓iww_t, ↓iww_f, ↓iwl_t, ↓iwl_f, ↓ilw_t, ↓ilw_f, ↓eww_t, ↓eww_f, ↓ewl_t, ↓ewl_f, ↓ez_t, ↓ez_f, ↓il_t, ↓il_f, il_t, il_f, ez_t, ez_f, if_true, if_false, upS_h, upS_o, upS_i, Int.reduceAdd, Int.reduceSub, Int.reduceMul, Int.reduceNeg, wI_id], hc, fun _ _ _ => rfl, fun _ _ => rfl⟩
  | succ m ih =>
    intro x σ n h hl h1 hc hn
    obtain ⟨n, rfl⟩ : ∃ k, n = k + 1 := ⟨n - 1, by omega⟩
    have hs := h.1.1
    have e1 := (h.1.2.1 x (by omega) (by omega)).1
    have k1 := (hw.1.2.2 x (by omega) (by omega)).1
    have e2 := hl x (by omega) (by omega)
    have e3 := c_under (u := x) (k := k) (j := j) h.2.2.2.2 hw.2.2.2.2 hj
    have cr := cnt_r (P := PL α a k s j) x
    have hc1 := hc.1
    have skip : ¬ PL α a k s j x → ∃ τ, lp_X2_gather_3 (38 + 2 * q) s (pT α k j) a kx n σ ((x : Int) + 1) = kx τ ∧ cC τ (38 + 2 * q) (PL α a k s j) (x + (m + 1)) ∧ (∀ o, ¬ o = 38 + 2 * q → ¬ o = 38 + 2 * q + 1 → τ o = σ o) ∧ ∀ i, ¬ i = 1 → τ (38 + 2 * q) i = σ (38 + 2 * q) i := by
      intro hp
      have g := ih (x + 1) σ n h hl (by omega) ⟨by rw [cnt, if_neg hp]; exact hc.1, fun i i1 i2 => by rw [cnt, if_neg hp] at i2; rw [arr, if_neg hp]; exact hc.2 i i1 i2⟩ (by omega)
      rw [show x + 1 + m = x + (m + 1) by omega, show ((x + 1 : Nat) : Int) = (x : Int) + 1 by omega] at g
      exact g
    rw [lp_X2_gather_3]
    by_cases c1 : (x : Int) = a
    · obtain ⟨τ, g⟩ := skip (fun z => z.1 c1)
      refine ⟨τ, ?_, g.2⟩
      rw [← g.1]
      simp (disch := omega) only [↓rdA_t, ↓wrA_t, ↓ixA_t, ↓wrF_d, ↓bd2_s, ↓bd1_s, ↓bnd_d, ↓iww_t, ↓iww_f, ↓iwl_t, ↓iwl_f, ↓ilw_t, ↓ilw_f, ↓eww_t, ↓eww_f, ↓ewl_t, ↓ewl_f, ↓ez_t, ↓ez_f, ↓il_t, ↓il_f, il_t, il_f, ez_t, ez_f, if_true, if_false, upS_h, upS_o, upS_i, Int.reduceAdd, Int.reduceSub, Int.reduceMul, Int.reduceNeg, wI_id]
    · by_cases c2 : α 1 x = s
      · by_cases c3 : (j : Int) ≤ ag α x k
        · have hp : PL α a k s j x := ⟨c1, c2, c3⟩
          have hI : IC (upS (upS σ (38 + 2 * q + 1) (σ (38 + 2 * q) 1) x) (38 + 2 * q) 1 (σ (38 + 2 * q) 1 + 1)) α := IC_scr (fun o ho i _ => by simp (disch := omega) only [upS_h, upS_o, upS_i, Int.reduceAdd, Int.reduceSub, Int.reduceMul, Int.reduceNeg]) h
          have g := ih (x + 1) (upS (upS σ (38 + 2 * q + 1) (σ (38 + 2 * q) 1) x) (38 + 2 * q) 1 (σ (38 + 2 * q) 1 + 1)) n hI (fun u u1 u2 => by simp (disch := omega) only [upS_h, upS_o, upS_i, Int.reduceAdd, Int.reduceSub, Int.reduceMul, Int.reduceNeg]; exact hl u u1 u2) (by omega) ⟨by rw [cnt, if_pos hp, upS_h ⟨rfl, rfl⟩, hc.1], fun i i1 i2 => by
            rw [cnt, if_pos hp] at i2
            rw [arr, if_pos hp, upS_o (by omega)]
            by_cases c4 : i = cnt (PL α a k s j) x
            · rw [if_pos c4, upS_h ⟨rfl, by omega⟩]
            · rw [if_neg c4, upS_i (by omega)]; exact hc.2 i i1 (by omega)⟩ (by omega)
          obtain ⟨τ, g1, g2, g3, g4⟩ := g
          rw [show x + 1 + m = x + (m + 1) by omega] at g2
          rw [show ((x + 1 : Nat) : Int) = (x : Int) + 1 by omega] at g1
          refine ⟨τ, ?_, g2, fun o o1 o2 => by rw [g3 o o1 o2, upS_of o1, upS_of o2], fun i i1 => by rw [g4 i i1, upS_i i1, upS_o (by omega)]⟩
          rw [← g1]
          unfold f_X1_add
          rw [if_pos c3] at e3
          simp (disch := omega) only [↓rdA_t, ↓wrA_t, ↓ixA_t, ↓wrF_d, ↓bd2_s, ↓bd1_s, ↓bnd_d, ↓iww_t, ↓iww_f, ↓iwl_t, ↓iwl_f, ↓ilw_t, ↓ilw_f, ↓eww_t, ↓eww_f, ↓ewl_t, ↓ewl_f, ↓ez_t, ↓ez_f, ↓il_t, ↓il_f, il_t, il_f, ez_t, ez_f, if_true, if_false, upS_h, upS_o, upS_i, Int.reduceAdd, Int.reduceSub, Int.reduceMul, Int.reduceNeg, wI_id, e1, e2, e3]
        · obtain ⟨τ, g⟩ := skip (fun z => c3 z.2.2)
          refine ⟨τ, ?_, g.2⟩
          rw [← g.1]
          rw [if_neg c3] at e3
          simp (disch := omega) only [↓rdA_t, ↓wrA_t, ↓ixA_t, ↓wrF_d, ↓bd2_s, ↓bd1_s, ↓bnd_d, ↓iww_t, ↓iww_f, ↓iwl_t, ↓iwl_f, ↓ilw_t, ↓ilw_f, ↓eww_t, ↓eww_f, ↓ewl_t, ↓ewl_f, ↓ez_t, ↓ez_f, ↓il_t, ↓il_f, il_t, il_f, ez_t, ez_f, if_true, if_false, upS_h, upS_o, upS_i, Int.reduceAdd, Int.reduceSub, Int.reduceMul, Int.reduceNeg, wI_id, e1, e2, e3]
      · obtain ⟨τ, g⟩ := skip (fun z => c2 z.2.1)
        refine ⟨τ, ?_, g.2⟩
        rw [← g.1]
        simp (disch := omega) only [↓rdA_t, ↓wrA_t, ↓ixA_t, ↓wrF_d, ↓bd2_s, ↓bd1_s, ↓bnd_d, ↓iww_t, ↓iww_f, ↓iwl_t, ↓iwl_f, ↓ilw_t, ↓ilw_f, ↓eww_t, ↓eww_f, ↓ewl_t, ↓ewl_f, ↓ez_t, ↓ez_f, ↓il_t, ↓il_f, il_t, il_f, ez_t, ez_f, if_true, if_false, upS_h, upS_o, upS_i, Int.reduceAdd, Int.reduceSub, Int.reduceMul, Int.reduceNeg, wI_id, e1]
theorem c_gather {σ α : St} {q a k s : Int} {j : Nat} (h : IC σ α) (hl : cL σ α) (hw : WF α) (hq : 0 ≤ q ∧ q < 8) (ha : -1 ≤ a ∧ a < 40) (hs0 : 0 ≤ s ∧ s ≤ 5) (hj : (j : Int) ≤ dT α k) (h0 : σ (38 + 2 * q) 1 = 0) : ∃ τ, f_X2_gather σ (38 + 2 * q) s (pT α k j) a = some (0, τ) ∧ cC τ (38 + 2 * q) (PL α a k s j) (α 0 0).toNat ∧ (∀ o, ¬ o = 38 + 2 * q → ¬ o = 38 + 2 * q + 1 → τ o = σ o) ∧ ∀ i, ¬ i = 1 → τ (38 + 2 * q) i = σ (38 + 2 * q) i := by
  have w1 := hw.1.1
  have w2 := hw.1.2.1
  unfold f_X2_gather
  have g := c_gather_g (α := α) (q := q) (a := a) (k := k) (s := s) (j := j) (fun σ11 => some (0, σ11)) hw hq ha hs0 hj (α 0 0).toNat 0 σ 1000 h hl (by omega) ⟨h0, fun i i1 i2 => by rw [cnt] at i2; omega⟩ (by omega)
  rw [Nat.zero_add] at g
  exact g
theorem c_climb_g {α : St} {q a k s : Int} (kx : St → Option (Int × St)) (hw : WF α) (hq : 0 ≤ q ∧ q < 8) (ha : -1 ≤ a ∧ a < 40) (hs0 : 0 ≤ s ∧ s ≤ 5) : ∀ (j : Nat) (σ : St) (x : Int) (n : Nat), IC σ α → cL σ α → x + j = dT α k → 0 ≤ x → bst α a k s ≤ j → σ (38 + 2 * q) 1 = 0 → j < n → ∃ τ, lp_X2_climb_6 (38 + 2 * q) s a kx n σ (pT α k j) x = some (0, τ) ∧ (0 ≤ bst α a k s → τ (38 + 2 * q) 2 = σ (38 + 2 * q) 2 + (j - bst α a k s) ∧ cC τ (38 + 2 * q) (PL α a k s (bst α a k s)) (α 0 0).toNat) ∧ (bst α a k s < 0 → τ (38 + 2 * q) 2 = σ (38 + 2 * q) 2 + j ∧ τ (38 + 2 * q) 1 = 0) ∧ τ (38 + 2 * q) 3 = σ (38 + 2 * q) 3 ∧ (∀ o, ¬ o = 38 + 2 * q → ¬ o = 38 + 2 * q + 1 → τ o = σ o) := by
  intro j
  have hd := dT_r (k := k) hw.2.2.2.2
  have w1 := hw.1.1
  have w2 := hw.1.2.1
  have b0 := (bst_p (a := a) (k := k) (s := s) hw.2.2.2.2).1
  have nodeIn : ∀ j : Nat, 0 ≤ pT α k j ∧ pT α k j < α 0 7 := fun j => by
    have := wk_in (l := tL α k) (r := tR α k) (p := α 8 k) (d := α 9 k) hw.2.2.2.2 j
    exact ⟨this.1, this.2.1⟩
  have scr : ∀ {σ τ : St}, (∀ o, ¬ o = 38 + 2 * q → ¬ o = 38 + 2 * q + 1 → τ o = σ o) → IC σ α → IC τ α := fun hf h => IC_scr (fun o ho i _ => by rw [hf o (by omega) (by omega)]) h
  have one : ∀ (j : Nat) (σ : St), IC σ α → cL σ α → (j : Int) ≤ dT α k → σ (38 + 2 * q) 1 = 0 → ∃ τ, f_X2_gather σ (38 + 2 * q) s (pT α k j) a = some (0, τ) ∧ cC τ (38 + 2 * q) (PL α a k s j) (α 0 0).toNat ∧ IC τ α ∧ (0 ≤ τ (38 + 2 * q) 1 ∧ τ (38 + 2 * q) 1 ≤ 40) ∧ (0 < τ (38 + 2 * q) 1 ↔ (j : Int) ≤ bst α a k s) ∧ (∀ o, ¬ o = 38 + 2 * q → ¬ o = 38 + 2 * q + 1 → τ o = σ o) ∧ ∀ i, ¬ i = 1 → τ (38 + 2 * q) i = σ (38 + 2 * q) i := by
    intro j σ h hl hj h0
    obtain ⟨τ, g1, g2, g3, g4⟩ := c_gather h hl hw hq ha hs0 hj h0
    have r := cnt_r (P := PL α a k s j) (α 0 0).toNat
    have p := chN_pos (a := a) (k := k) (s := s) (j := (j : Int)) hw.2.2.2.2 (by omega)
    unfold chN at p
    exact ⟨τ, g1, g2, scr g3 h, by rw [g2.1]; omega, by rw [g2.1]; exact p, g3, g4⟩
  induction j with
  | zero =>
    intro σ x n h hl h1 h2 h3 h4 hn
    obtain ⟨n, rfl⟩ : ∃ k, n = k + 1 := ⟨n - 1, by omega⟩
    obtain ⟨τ, g1, g2, gI, gr, gp, g3, g4⟩ := one 0 σ h hl (by omega) h4
    have ab := c_above gI.2.2.2.2 hw.2.2.2.2 (nodeIn 0).1 (nodeIn 0).2
    have e0 : α 16 (pT α k 0) = -1 := hw.2.2.2.2.2.2.2.1
    rw [lp_X2_climb_6]
    refine ⟨τ, ?_, fun hb => ?_, fun hb => ?_, g4 3 (by omega), g3⟩
    · rw [e0] at ab
      by_cases c : 0 < τ (38 + 2 * q) 1
      · simp (disch := omega) only [↓rdA_t, ↓wrA_t, ↓ixA_t, ↓wrF_d, ↓bd2_s, ↓bd1_s, ↓bnd_d, ↓iww_t, ↓iww_f, ↓iwl_t, ↓iwl_f, ↓ilw_t, ↓ilw_f, ↓eww_t, ↓eww_f, ↓ewl_t, ↓ewl_f, ↓ez_t, ↓ez_f, ↓il_t, ↓il_f, il_t, il_f, ez_t, ez_f, if_true, if_false, upS_h, upS_o, upS_i, Int.reduceAdd, Int.reduceSub, Int.reduceMul, Int.reduceNeg, wI_id, g1, ab]
      · simp (disch := omega) only [↓rdA_t, ↓wrA_t, ↓ixA_t, ↓wrF_d, ↓bd2_s, ↓bd1_s, ↓bnd_d, ↓iww_t, ↓iww_f, ↓iwl_t, ↓iwl_f, ↓ilw_t, ↓ilw_f, ↓eww_t, ↓eww_f, ↓ewl_t, ↓ewl_f, ↓ez_t, ↓ez_f, ↓il_t, ↓il_f, il_t, il_f, ez_t, ez_f, if_true, if_false, upS_h, upS_o, upS_i, Int.reduceAdd, Int.reduceSub, Int.reduceMul, Int.reduceNeg, wI_id, g1, ab]
    · have : bst α a k s = ((0 : Nat) : Int) := by omega
      rw [this]
      exact ⟨by rw [g4 2 (by omega)]; omega, g2⟩
    · exact ⟨by rw [g4 2 (by omega)]; omega, by omega⟩
  | succ j ih =>
    intro σ x n h hl h1 h2 h3 h4 hn
    obtain ⟨n, rfl⟩ : ∃ k, n = k + 1 := ⟨n - 1, by omega⟩
    obtain ⟨τ, g1, g2, gI, gr, gp, g3, g4⟩ := one (j + 1) σ h hl (by omega) h4
    have ab := c_above gI.2.2.2.2 hw.2.2.2.2 (nodeIn (j + 1)).1 (nodeIn (j + 1)).2
    have e0 : α 16 (pT α k (j + 1)) = pT α k j := wk_up hw.2.2.2.2 (by unfold dT lfT at h1; omega)
    rw [e0] at ab
    have nj := nodeIn j
    have nw := hw.2.2.2.2.1
    rw [lp_X2_climb_6]
    by_cases c : ((j + 1 : Nat) : Int) ≤ bst α a k s
    · have c2 := gp.2 c
      refine ⟨τ, ?_, fun hb => ?_, fun hb => ?_, g4 3 (by omega), g3⟩
      · simp (disch := omega) only [↓rdA_t, ↓wrA_t, ↓ixA_t, ↓wrF_d, ↓bd2_s, ↓bd1_s, ↓bnd_d, ↓iww_t, ↓iww_f, ↓iwl_t, ↓iwl_f, ↓ilw_t, ↓ilw_f, ↓eww_t, ↓eww_f, ↓ewl_t, ↓ewl_f, ↓ez_t, ↓ez_f, ↓il_t, ↓il_f, il_t, il_f, ez_t, ez_f, if_true, if_false, upS_h, upS_o, upS_i, Int.reduceAdd, Int.reduceSub, Int.reduceMul, Int.reduceNeg, wI_id, g1, ab]
      · have : bst α a k s = ((j + 1 : Nat) : Int) := by omega
        rw [this]
        exact ⟨by rw [g4 2 (by omega)]; omega, g2⟩
      · omega
    · have c2 : ¬ 0 < τ (38 + 2 * q) 1 := fun z => c (gp.1 z)
      have e2 := g4 2 (by omega)
      have hI2 : IC (upS τ (38 + 2 * q) 2 (τ (38 + 2 * q) 2 + 1)) α := IC_scr (fun o ho i _ => by simp (disch := omega) only [upS_h, upS_o, upS_i, Int.reduceAdd, Int.reduceSub, Int.reduceMul, Int.reduceNeg]) gI
      obtain ⟨ρ, f1, f2, f3, f4, f5⟩ := ih (upS τ (38 + 2 * q) 2 (τ (38 + 2 * q) 2 + 1)) (x + 1) n hI2 (fun u u1 u2 => by rw [upS_o (by omega), g3 36 (by omega) (by omega)]; exact hl u u1 u2) (by omega) (by omega) (by omega) (by rw [upS_i (by omega)]; omega) (by omega)
      rw [upS_h ⟨rfl, rfl⟩, e2] at f2 f3
      refine ⟨ρ, ?_, fun hb => ⟨by have := (f2 hb).1; omega, (f2 hb).2⟩, fun hb => ⟨by have := (f3 hb).1; omega, (f3 hb).2⟩, by rw [f4, upS_i (by omega), g4 3 (by omega)], fun o o1 o2 => by rw [f5 o o1 o2, upS_of o1, g3 o o1 o2]⟩
      rw [← f1]
      simp (disch := omega) only [↓rdA_t, ↓wrA_t, ↓ixA_t, ↓wrF_d, ↓bd2_s, ↓bd1_s, ↓bnd_d, ↓iww_t, ↓iww_f, ↓iwl_t, ↓iwl_f, ↓ilw_t, ↓ilw_f, ↓eww_t, ↓eww_f, ↓ewl_t, ↓ewl_f, ↓ez_t, ↓ez_f, ↓il_t, ↓il_f, il_t, il_f, ez_t, ez_f, if_true, if_false, upS_h, upS_o, upS_i, Int.reduceAdd, Int.reduceSub, Int.reduceMul, Int.reduceNeg, wI_id, g1, ab]
end
section
/-! ===== rounds of sounds ===== -/
def bt (M s : Int) : Int := wI (andI (shrI M s) 1)
def un (M : Int) : Int := (if bt M 0 = 0 then 1 else 0) + (if bt M 1 = 0 then 1 else 0) + (if bt M 2 = 0 then 1 else 0) + (if bt M 3 = 0 then 1 else 0) + (if bt M 4 = 0 then 1 else 0) + (if bt M 5 = 0 then 1 else 0)
abbrev mkP (M s : Int) : Prop := (decide (wI (andI M (shlI 1 s)) = 0) = decide (bt M s = 0)) ∧ (bt M s = 0 → un (orI M (shlI 1 s)) + 1 = un M ∧ 0 ≤ orI M (shlI 1 s) ∧ orI M (shlI 1 s) ≤ 63) ∧ (un M = 0 → ¬ bt M s = 0) ∧ 0 ≤ un M
theorem mk_tab : ∀ (M : Fin 64) (s : Fin 6), mkP (M.val : Int) (s.val : Int) := by decide +kernel
theorem mk_e {M s : Int} (hM : 0 ≤ M ∧ M ≤ 63) (hs : 0 ≤ s ∧ s ≤ 5) : mkP M s := by
  have := mk_tab ⟨M.toNat, by omega⟩ ⟨s.toNat, by omega⟩
  simp only at this
  rw [show ((M.toNat : Nat) : Int) = M by omega, show ((s.toNat : Nat) : Int) = s by omega] at this
  exact this
theorem un_0 : un 0 = 6 := by decide +kernel
/-- found, steps, tried, the sound -/
def rnG (α : St) (a k : Int) : Nat → Int → Int → Int → Int → Int × Int × Int × Int
  | 0, s, _, x, t => (0, x, t, s)
  | m + 1, s, M, x, t => if bt M s = 0 then (if 0 ≤ bst α a k s then (1, x + (dT α k - bst α a k s), t + 1, s) else rnG α a k m (α 10 s) (orI M (shlI 1 s)) (x + (dT α k + 1)) (t + 1)) else (0, x, t, s)
def rnS (α : St) (a k : Int) : Int × Int × Int × Int := rnG α a k 6 (α 7 k) 0 0 0
theorem rnG_r {α : St} {a k : Int} (hw : WF α) : ∀ (m : Nat) (s M x t : Int), 0 ≤ s ∧ s ≤ 5 → 0 ≤ x → 0 ≤ t → ((rnG α a k m s M x t).1 = 0 ∨ (rnG α a k m s M x t).1 = 1) ∧ (0 ≤ (rnG α a k m s M x t).2.1 ∧ (rnG α a k m s M x t).2.1 ≤ x + 8 * m) ∧ (0 ≤ (rnG α a k m s M x t).2.2.1 ∧ (rnG α a k m s M x t).2.2.1 ≤ t + m) ∧ (0 ≤ (rnG α a k m s M x t).2.2.2 ∧ (rnG α a k m s M x t).2.2.2 ≤ 5) ∧ ((rnG α a k m s M x t).1 = 1 → 0 ≤ bst α a k (rnG α a k m s M x t).2.2.2) := by
  intro m
  have hd := dT_r (k := k) hw.2.2.2.2
  induction m with
  | zero => intro s M x t h1 h2 h3; rw [rnG]; exact ⟨Or.inl rfl, ⟨h2, by simp⟩, ⟨h3, by simp⟩, h1, fun z => by simp at z⟩
  | succ m ih =>
    intro s M x t h1 h2 h3
    rw [rnG]
    by_cases c : bt M s = 0
    · rw [if_pos c]
      have b0 := (bst_p (a := a) (k := k) (s := s) hw.2.2.2.2).1
      by_cases c2 : 0 ≤ bst α a k s
      · rw [if_pos c2]
        exact ⟨Or.inr rfl, ⟨by show 0 ≤ x + (dT α k - bst α a k s); omega, by show x + (dT α k - bst α a k s) ≤ x + 8 * ((m + 1 : Nat) : Int); omega⟩, ⟨by show 0 ≤ t + 1; omega, by show t + 1 ≤ t + ((m + 1 : Nat) : Int); omega⟩, h1, fun _ => c2⟩
      · rw [if_neg c2]
        have g := ih (α 10 s) (orI M (shlI 1 s)) (x + (dT α k + 1)) (t + 1) (hw.2.2.1.2 s h1.1 (by omega)) (by omega) (by omega)
        exact ⟨g.1, ⟨g.2.1.1, by omega⟩, ⟨g.2.2.1.1, by omega⟩, g.2.2.2⟩
    · rw [if_neg c]
      exact ⟨Or.inl rfl, ⟨h2, by show x ≤ x + 8 * ((m + 1 : Nat) : Int); omega⟩, ⟨h3, by show t ≤ t + ((m + 1 : Nat) : Int); omega⟩, h1, fun z => by simp at z⟩
theorem rnS_r {α : St} {a k : Int} (hw : WF α) (h0 : 0 ≤ k) (h1 : k < α 0 1) : ((rnS α a k).1 = 0 ∨ (rnS α a k).1 = 1) ∧ (0 ≤ (rnS α a k).2.1 ∧ (rnS α a k).2.1 ≤ 48) ∧ (0 ≤ (rnS α a k).2.2.1 ∧ (rnS α a k).2.2.1 ≤ 6) ∧ (0 ≤ (rnS α a k).2.2.2 ∧ (rnS α a k).2.2.2 ≤ 5) ∧ ((rnS α a k).1 = 1 → 0 ≤ bst α a k (rnS α a k).2.2.2) :=
  rnG_r hw 6 (α 7 k) 0 0 0 (hw.2.1.2.2 k h0 h1).1 (by omega) (by omega)
/-- what is chosen for a target: how many, and which -/
def nCh (α : St) (a k : Int) : Int := chN α a k (rnS α a k).2.2.2 (bst α a k (rnS α a k).2.2.2)
def uCh (α : St) (a k i : Int) : Int := chU α a k (rnS α a k).2.2.2 (bst α a k (rnS α a k).2.2.2) i
theorem nCh_r {α : St} {a k : Int} (hw : WF α) (h0 : 0 ≤ k) (h1 : k < α 0 1) (hf : (rnS α a k).1 = 1) : 0 < nCh α a k ∧ nCh α a k ≤ α 0 0 := by
  have r := (rnS_r (a := a) hw h0 h1).2.2.2.2 hf
  have w := hw.1.1
  unfold nCh
  refine ⟨(chN_pos hw.2.2.2.2 r).2 (by omega), ?_⟩
  unfold chN
  have := cnt_r (P := PL α a k (rnS α a k).2.2.2 (bst α a k (rnS α a k).2.2.2)) (α 0 0).toNat
  omega
theorem uCh_r {α : St} {a k i : Int} (hw : WF α) (h0 : 0 ≤ i) (h1 : i < nCh α a k) : (0 ≤ uCh α a k i ∧ uCh α a k i < α 0 0) ∧ ¬ uCh α a k i = a := by
  have w := hw.1.1
  unfold nCh chN at h1
  have := arr_r (P := PL α a k (rnS α a k).2.2.2 (bst α a k (rnS α a k).2.2.2)) (α 0 0).toNat i h0 h1
  unfold uCh chU
  exact ⟨⟨this.1, by omega⟩, this.2.2.1⟩
theorem c_rounds {α : St} {q a : Int} (kx : St → Option (Int × St)) (hw : WF α) (hq : 0 ≤ q ∧ q < 8) (ha : -1 ≤ a ∧ a < 40) : ∀ (m : Nat) (σ : St) (s M x t y : Int) (n : Nat), IC σ α → cL σ α → 0 ≤ s ∧ s ≤ 5 → 0 ≤ M ∧ M ≤ 63 → y + m = 6 → 0 ≤ y → un M = m → σ (38 + 2 * q) 1 = 0 → σ (38 + 2 * q) 2 = x - (if 0 < y then 1 else 0) → σ (38 + 2 * q) 3 = t → m < n →
    ((rnG α a q m s M x t).1 = 1 ∧ ∃ τ, lp_X2_chooseFor_35 a (38 + 2 * q) (lfT α q) kx n σ s M y = some (0, τ) ∧ τ (38 + 2 * q) 2 = (rnG α a q m s M x t).2.1 ∧ τ (38 + 2 * q) 3 = (rnG α a q m s M x t).2.2.1 ∧ cC τ (38 + 2 * q) (PL α a q (rnG α a q m s M x t).2.2.2 (bst α a q (rnG α a q m s M x t).2.2.2)) (α 0 0).toNat ∧ ∀ o, ¬ o = 38 + 2 * q → ¬ o = 38 + 2 * q + 1 → τ o = σ o) ∨
    ((rnG α a q m s M x t).1 = 0 ∧ ∃ τ, lp_X2_chooseFor_35 a (38 + 2 * q) (lfT α q) kx n σ s M y = kx τ ∧ τ (38 + 2 * q) 3 = (rnG α a q m s M x t).2.2.1 ∧ ∀ o, ¬ o = 38 + 2 * q → ¬ o = 38 + 2 * q + 1 → τ o = σ o) := by
  intro m
  have hd := dT_r (k := q) hw.2.2.2.2
  induction m with
  | zero =>
    intro σ s M x t y n h hl hs hM hy hy0 hu h1 h2 h3 hn
    obtain ⟨n, rfl⟩ : ∃ k, n = k + 1 := ⟨n - 1, by omega⟩
    right
    rw [lp_X2_chooseFor_35, rnG]
    exact ⟨rfl, σ, by simp (disch := omega) only [↓rdA_t, ↓wrA_t, ↓ixA_t, ↓wrF_d, ↓bd2_s, ↓bd1_s, ↓bnd_d, ↓iww_t, ↓iww_f, ↓iwl_t, ↓iwl_f, ↓ilw_t, ↓ilw_f, ↓eww_t, ↓eww_f, ↓ewl_t, ↓ewl_f, ↓ez_t, ↓ez_f, ↓il_t, ↓il_f, il_t, il_f, ez_t, ez_f, if_true, if_false, upS_h, upS_o, upS_i, Int.reduceAdd, Int.reduceSub, Int.reduceMul, Int.reduceNeg, wI_id], h3, fun _ _ _ => rfl⟩
  | succ m ih =>
    intro σ s M x t y n h hl hs hM hy hy0 hu h1 h2 h3 hn
    obtain ⟨n, rfl⟩ : ∃ k, n = k + 1 := ⟨n - 1, by omega⟩
    obtain ⟨k1, k2, k3, k4⟩ := mk_e hM hs
    rw [lp_X2_chooseFor_35, rnG]
    by_cases c : bt M s = 0
    · have c' : wI (andI M (shlI 1 s)) = 0 := by
        have : decide (bt M s = 0) = true := decide_eq_true c
        rw [← k1] at this
        exact of_decide_eq_true this
      obtain ⟨k5, k6⟩ := k2 c
      rw [if_pos c]
      have nx := hw.2.2.1.2 s hs.1 (by omega)
      have b0 := (bst_p (a := a) (k := q) (s := s) hw.2.2.2.2).1
      -- the state when the climb begins
      have main : ∀ ρ : St, (∀ o, ¬ o = 38 + 2 * q → ρ o = σ o) → ρ (38 + 2 * q) 1 = 0 → ρ (38 + 2 * q) 2 = x → ρ (38 + 2 * q) 3 = t + 1 →
          ((if 0 ≤ bst α a q s then (1, x + (dT α q - bst α a q s), t + 1, s) else rnG α a q m (α 10 s) (orI M (shlI 1 s)) (x + (dT α q + 1)) (t + 1)).1 = 1 ∧ ∃ τ, jn_X2_chooseFor_86 (lp_X2_chooseFor_35 a (38 + 2 * q) (lfT α q) kx n) ρ a (38 + 2 * q) (lfT α q) s (orI M (shlI 1 s)) y = some (0, τ) ∧ τ (38 + 2 * q) 2 = (if 0 ≤ bst α a q s then (1, x + (dT α q - bst α a q s), t + 1, s) else rnG α a q m (α 10 s) (orI M (shlI 1 s)) (x + (dT α q + 1)) (t + 1)).2.1 ∧ τ (38 + 2 * q) 3 = (if 0 ≤ bst α a q s then (1, x + (dT α q - bst α a q s), t + 1, s) else rnG α a q m (α 10 s) (orI M (shlI 1 s)) (x + (dT α q + 1)) (t + 1)).2.2.1 ∧ cC τ (38 + 2 * q) (PL α a q (if 0 ≤ bst α a q s then (1, x + (dT α q - bst α a q s), t + 1, s) else rnG α a q m (α 10 s) (orI M (shlI 1 s)) (x + (dT α q + 1)) (t + 1)).2.2.2 (bst α a q (if 0 ≤ bst α a q s then (1, x + (dT α q - bst α a q s), t + 1, s) else rnG α a q m (α 10 s) (orI M (shlI 1 s)) (x + (dT α q + 1)) (t + 1)).2.2.2)) (α 0 0).toNat ∧ ∀ o, ¬ o = 38 + 2 * q → ¬ o = 38 + 2 * q + 1 → τ o = σ o) ∨
          ((if 0 ≤ bst α a q s then (1, x + (dT α q - bst α a q s), t + 1, s) else rnG α a q m (α 10 s) (orI M (shlI 1 s)) (x + (dT α q + 1)) (t + 1)).1 = 0 ∧ ∃ τ, jn_X2_chooseFor_86 (lp_X2_chooseFor_35 a (38 + 2 * q) (lfT α q) kx n) ρ a (38 + 2 * q) (lfT α q) s (orI M (shlI 1 s)) y = kx τ ∧ τ (38 + 2 * q) 3 = (if 0 ≤ bst α a q s then (1, x + (dT α q - bst α a q s), t + 1, s) else rnG α a q m (α 10 s) (orI M (shlI 1 s)) (x + (dT α q + 1)) (t + 1)).2.2.1 ∧ ∀ o, ¬ o = 38 + 2 * q → ¬ o = 38 + 2 * q + 1 → τ o = σ o) := by
        intro ρ r0 r1 r2 r3
        have hI : IC ρ α := IC_scr (fun o ho i _ => by rw [r0 o (by omega)]) h
        have hL : cL ρ α := fun u u1 u2 => by rw [r0 36 (by omega)]; exact hl u u1 u2
        have eN : pT α q (dT α q).toNat = lfT α q := wk_end hw.2.2.2.2 (by unfold dT lfT at hd ⊢; omega)
        obtain ⟨τ, f1, f2, f3, f4, f5⟩ := c_climb_g (α := α) (q := q) (a := a) (k := q) (s := s) (fun σ8 => some (0, σ8)) hw hq ha hs (dT α q).toNat ρ 0 1000 hI hL (by omega) (by omega) (by omega) r1 (by omega)
        rw [eN] at f1
        have fc : f_X2_climb ρ (38 + 2 * q) s (lfT α q) a = some (0, τ) := f1
        unfold jn_X2_chooseFor_86
        by_cases c2 : 0 ≤ bst α a q s
        · rw [if_pos c2]
          left
          obtain ⟨g1, g2⟩ := f2 c2
          have p := (chN_pos (a := a) (k := q) (s := s) hw.2.2.2.2 c2).2 (by omega)
          unfold chN at p
          have p2 := cnt_r (P := PL α a q s (bst α a q s)) (α 0 0).toNat
          have p3 := hw.1.2.1
          have g3 := g2.1
          refine ⟨rfl, τ, ?_, by rw [g1, r2]; show x + (((dT α q).toNat : Int) - bst α a q s) = x + (dT α q - bst α a q s); omega, by rw [f4, r3], g2, fun o o1 o2 => by rw [f5 o o1 o2, r0 o o1]⟩
          simp (disch := omega) only [↓rdA_t, ↓wrA_t, ↓ixA_t, ↓wrF_d, ↓bd2_s, ↓bd1_s, ↓bnd_d, ↓iww_t, ↓iww_f, ↓iwl_t, ↓iwl_f, ↓ilw_t, ↓ilw_f, ↓eww_t, ↓eww_f, ↓ewl_t, ↓ewl_f, ↓ez_t, ↓ez_f, ↓il_t, ↓il_f, il_t, il_f, ez_t, ez_f, if_true, if_false, upS_h, upS_o, upS_i, Int.reduceAdd, Int.reduceSub, Int.reduceMul, Int.reduceNeg, wI_id, fc]
        · rw [if_neg c2]
          obtain ⟨g1, g2⟩ := f3 (by omega)
          have hI2 : IC τ α := IC_scr (fun o ho i _ => by rw [f5 o (by omega) (by omega)]) hI
          have hL2 : cL τ α := fun u u1 u2 => by rw [f5 36 (by omega) (by omega)]; exact hL u u1 u2
          have eo := hI2.2.2.1.2.2.2.2.1 s hs.1 (by omega)
          have g := ih τ (α 10 s) (orI M (shlI 1 s)) (x + (dT α q + 1)) (t + 1) (y + 1) n hI2 hL2 nx k6 (by omega) (by omega) (by omega) g2 (by rw [if_pos (by omega), g1, r2]; omega) (by rw [f4, r3]) (by omega)
          have ev : (bd2 (f_X2_climb ρ (38 + 2 * q) s (lfT α q) a) fun v12 σ13 => if 0 < wI (σ13 (38 + 2 * q) 1) then some (0, σ13) else rdA 6 σ13 34 s fun v15 => lp_X2_chooseFor_35 a (38 + 2 * q) (lfT α q) kx n σ13 v15 (orI M (shlI 1 s)) (y + 1)) = lp_X2_chooseFor_35 a (38 + 2 * q) (lfT α q) kx n τ (α 10 s) (orI M (shlI 1 s)) (y + 1) := by
            simp (disch := omega) only [↓rdA_t, ↓wrA_t, ↓ixA_t, ↓wrF_d, ↓bd2_s, ↓bd1_s, ↓bnd_d, ↓iww_t, ↓iww_f, ↓iwl_t, ↓iwl_f, ↓ilw_t, ↓ilw_f, ↓eww_t, ↓eww_f, ↓ewl_t, ↓ewl_f, ↓ez_t, ↓ez_f, ↓il_t, ↓il_f, il_t, il_f, ez_t, ez_f, if_true, if_false, upS_h, upS_o, upS_i, Int.reduceAdd, Int.reduceSub, Int.reduceMul, Int.reduceNeg, wI_id, fc, eo]
          rw [ev]
          rcases g with ⟨a1, τ2, a2, a3, a4, a5, a6⟩ | ⟨a1, τ2, a2, a3, a4⟩
          · left
            exact ⟨a1, τ2, a2, a3, a4, a5, fun o o1 o2 => by rw [a6 o o1 o2, f5 o o1 o2, r0 o o1]⟩
          · right
            exact ⟨a1, τ2, a2, a3, fun o o1 o2 => by rw [a4 o o1 o2, f5 o o1 o2, r0 o o1]⟩
      by_cases c3 : 0 < y
      · rw [if_pos c3] at h2
        have g := main (upS (upS σ (38 + 2 * q) 3 (σ (38 + 2 * q) 3 + 1)) (38 + 2 * q) 2 (σ (38 + 2 * q) 2 + 1)) (fun o ho => by rw [upS_of ho, upS_of ho]) (by simp (disch := omega) only [upS_h, upS_o, upS_i, Int.reduceAdd, Int.reduceSub, Int.reduceMul, Int.reduceNeg]; exact h1) (by simp (disch := omega) only [upS_h, upS_o, upS_i, Int.reduceAdd, Int.reduceSub, Int.reduceMul, Int.reduceNeg]; omega) (by simp (disch := omega) only [upS_h, upS_o, upS_i, Int.reduceAdd, Int.reduceSub, Int.reduceMul, Int.reduceNeg]; omega)
        have ev : (if wI y < 6 then if wI (andI M (shlI 1 s)) = 0 then bnd (orI M (shlI 1 s)) fun v8 => wrF σ (38 + 2 * q) 3 ((σ (38 + 2 * q) 3) + 1) fun σ9 => if 0 < wI y then wrF σ9 (38 + 2 * q) 2 ((σ9 (38 + 2 * q) 2) + 1) fun σ11 => jn_X2_chooseFor_86 (lp_X2_chooseFor_35 a (38 + 2 * q) (lfT α q) kx n) σ11 a (38 + 2 * q) (lfT α q) s v8 y else jn_X2_chooseFor_86 (lp_X2_chooseFor_35 a (38 + 2 * q) (lfT α q) kx n) σ9 a (38 + 2 * q) (lfT α q) s v8 y else kx σ else kx σ) = jn_X2_chooseFor_86 (lp_X2_chooseFor_35 a (38 + 2 * q) (lfT α q) kx n) (upS (upS σ (38 + 2 * q) 3 (σ (38 + 2 * q) 3 + 1)) (38 + 2 * q) 2 (σ (38 + 2 * q) 2 + 1)) a (38 + 2 * q) (lfT α q) s (orI M (shlI 1 s)) y := by
          rw [if_pos c']
          simp (disch := omega) only [↓rdA_t, ↓wrA_t, ↓ixA_t, ↓wrF_d, ↓bd2_s, ↓bd1_s, ↓bnd_d, ↓iww_t, ↓iww_f, ↓iwl_t, ↓iwl_f, ↓ilw_t, ↓ilw_f, ↓eww_t, ↓eww_f, ↓ewl_t, ↓ewl_f, ↓ez_t, ↓ez_f, ↓il_t, ↓il_f, il_t, il_f, ez_t, ez_f, if_true, if_false, upS_h, upS_o, upS_i, Int.reduceAdd, Int.reduceSub, Int.reduceMul, Int.reduceNeg, wI_id]
        rw [ev]
        exact g
      · rw [if_neg c3] at h2
        have g := main (upS σ (38 + 2 * q) 3 (σ (38 + 2 * q) 3 + 1)) (fun o ho => upS_of ho) (by simp (disch := omega) only [upS_h, upS_o, upS_i, Int.reduceAdd, Int.reduceSub, Int.reduceMul, Int.reduceNeg]; exact h1) (by simp (disch := omega) only [upS_h, upS_o, upS_i, Int.reduceAdd, Int.reduceSub, Int.reduceMul, Int.reduceNeg]; omega) (by simp (disch := omega) only [upS_h, upS_o, upS_i, Int.reduceAdd, Int.reduceSub, Int.reduceMul, Int.reduceNeg]; omega)
        have ev : (if wI y < 6 then if wI (andI M (shlI 1 s)) = 0 then bnd (orI M (shlI 1 s)) fun v8 => wrF σ (38 + 2 * q) 3 ((σ (38 + 2 * q) 3) + 1) fun σ9 => if 0 < wI y then wrF σ9 (38 + 2 * q) 2 ((σ9 (38 + 2 * q) 2) + 1) fun σ11 => jn_X2_chooseFor_86 (lp_X2_chooseFor_35 a (38 + 2 * q) (lfT α q) kx n) σ11 a (38 + 2 * q) (lfT α q) s v8 y else jn_X2_chooseFor_86 (lp_X2_chooseFor_35 a (38 + 2 * q) (lfT α q) kx n) σ9 a (38 + 2 * q) (lfT α q) s v8 y else kx σ else kx σ) = jn_X2_chooseFor_86 (lp_X2_chooseFor_35 a (38 + 2 * q) (lfT α q) kx n) (upS σ (38 + 2 * q) 3 (σ (38 + 2 * q) 3 + 1)) a (38 + 2 * q) (lfT α q) s (orI M (shlI 1 s)) y := by
          rw [if_pos c']
          simp (disch := omega) only [↓rdA_t, ↓wrA_t, ↓ixA_t, ↓wrF_d, ↓bd2_s, ↓bd1_s, ↓bnd_d, ↓iww_t, ↓iww_f, ↓iwl_t, ↓iwl_f, ↓ilw_t, ↓ilw_f, ↓eww_t, ↓eww_f, ↓ewl_t, ↓ewl_f, ↓ez_t, ↓ez_f, ↓il_t, ↓il_f, il_t, il_f, ez_t, ez_f, if_true, if_false, upS_h, upS_o, upS_i, Int.reduceAdd, Int.reduceSub, Int.reduceMul, Int.reduceNeg, wI_id]
        rw [ev]
        exact g
    · have c' : ¬ wI (andI M (shlI 1 s)) = 0 := by
        intro z
        have : decide (wI (andI M (shlI 1 s)) = 0) = true := decide_eq_true z
        rw [k1] at this
        exact c (of_decide_eq_true this)
      rw [if_neg c, if_neg c']
      right
      exact ⟨rfl, σ, by simp (disch := omega) only [↓rdA_t, ↓wrA_t, ↓ixA_t, ↓wrF_d, ↓bd2_s, ↓bd1_s, ↓bnd_d, ↓iww_t, ↓iww_f, ↓iwl_t, ↓iwl_f, ↓ilw_t, ↓ilw_f, ↓eww_t, ↓eww_f, ↓ewl_t, ↓ewl_f, ↓ez_t, ↓ez_f, ↓il_t, ↓il_f, il_t, il_f, ez_t, ez_f, if_true, if_false, upS_h, upS_o, upS_i, Int.reduceAdd, Int.reduceSub, Int.reduceMul, Int.reduceNeg, wI_id], h3, fun _ _ _ => rfl⟩
/-- the component's choice for target q stands in its cells -/
def cCh (σ α : St) (a q : Int) : Prop := ((rnS α a q).1 = 1 → σ (38 + 2 * q) 1 = nCh α a q ∧ σ (38 + 2 * q) 2 = (rnS α a q).2.1 ∧ ∀ i, 0 ≤ i → i < nCh α a q → σ (38 + 2 * q + 1) i = uCh α a q i) ∧ ((rnS α a q).1 = 0 → σ (38 + 2 * q) 2 = -1) ∧ σ (38 + 2 * q) 3 = (rnS α a q).2.2.1
theorem c_choose {σ α : St} {q a : Int} (h : IC σ α) (hl : cL σ α) (hw : WF α) (h0 : 0 ≤ q) (h1 : q < α 0 1) (ha : -1 ≤ a ∧ a < 40) : ∃ τ, f_X2_chooseFor σ q a = some (0, τ) ∧ cCh τ α a q ∧ ∀ o, ¬ o = 38 + 2 * q → ¬ o = 38 + 2 * q + 1 → τ o = σ o := by
  have w := hw.2.1.2.1
  have k1 := (hw.2.1.2.2 q h0 h1).1
  have e1 := (h.2.1.2 q h0 h1).1
  have hI : IC (upS (upS (upS σ (38 + 2 * q) 1 0) (38 + 2 * q) 2 0) (38 + 2 * q) 3 0) α := IC_scr (fun o ho i _ => by simp (disch := omega) only [upS_h, upS_o, upS_i, Int.reduceAdd, Int.reduceSub, Int.reduceMul, Int.reduceNeg]) h
  have hL : cL (upS (upS (upS σ (38 + 2 * q) 1 0) (38 + 2 * q) 2 0) (38 + 2 * q) 3 0) α := fun u u1 u2 => by simp (disch := omega) only [upS_h, upS_o, upS_i, Int.reduceAdd, Int.reduceSub, Int.reduceMul, Int.reduceNeg]; exact hl u u1 u2
  have g := c_rounds (α := α) (q := q) (a := a) (fun σ16 => bd2 (f_X1_miss σ16 (38 + 2 * q)) fun v17 σ18 => some (0, σ18)) hw ⟨h0, by omega⟩ ha 6 (upS (upS (upS σ (38 + 2 * q) 1 0) (38 + 2 * q) 2 0) (38 + 2 * q) 3 0) (α 7 q) 0 0 0 0 1000 hI hL k1 (by omega) (by omega) (by omega) un_0 (by simp (disch := omega) only [upS_h, upS_o, upS_i, Int.reduceAdd, Int.reduceSub, Int.reduceMul, Int.reduceNeg]) (by simp (disch := omega) only [upS_h, upS_o, upS_i, Int.reduceAdd, Int.reduceSub, Int.reduceMul, Int.reduceNeg]; rfl) (by simp (disch := omega) only [upS_h, upS_o, upS_i, Int.reduceAdd, Int.reduceSub, Int.reduceMul, Int.reduceNeg]) (by omega)
  have fr : ∀ o, ¬ o = 38 + 2 * q → upS (upS (upS σ (38 + 2 * q) 1 0) (38 + 2 * q) 2 0) (38 + 2 * q) 3 0 o = σ o := fun o ho => by rw [upS_of ho, upS_of ho, upS_of ho]
  have ev : f_X2_chooseFor σ q a = lp_X2_chooseFor_35 a (38 + 2 * q) (lfT α q) (fun σ16 => bd2 (f_X1_miss σ16 (38 + 2 * q)) fun v17 σ18 => some (0, σ18)) 1000 (upS (upS (upS σ (38 + 2 * q) 1 0) (38 + 2 * q) 2 0) (38 + 2 * q) 3 0) (α 7 q) 0 0 := by
    unfold f_X2_chooseFor f_X1_begin
    simp (disch := omega) only [↓rdA_t, ↓wrA_t, ↓ixA_t, ↓wrF_d, ↓bd2_s, ↓bd1_s, ↓bnd_d, ↓iww_t, ↓iww_f, ↓iwl_t, ↓iwl_f, ↓ilw_t, ↓ilw_f, ↓eww_t, ↓eww_f, ↓ewl_t, ↓ewl_f, ↓ez_t, ↓ez_f, ↓il_t, ↓il_f, il_t, il_f, ez_t, ez_f, if_true, if_false, upS_h, upS_o, upS_i, Int.reduceAdd, Int.reduceSub, Int.reduceMul, Int.reduceNeg, wI_id, c_lfT hI hw h0 h1, e1]
  rw [ev]
  rcases g with ⟨a1, τ, a2, a3, a4, a5, a6⟩ | ⟨a1, τ, a2, a3, a4⟩
  · refine ⟨τ, a2, ⟨fun _ => ⟨a5.1, a3, fun i i1 i2 => a5.2 i i1 i2⟩, fun z => ?_, a4⟩, fun o o1 o2 => by rw [a6 o o1 o2, fr o o1]⟩
    unfold rnS at z
    omega
  · refine ⟨upS (upS τ (38 + 2 * q) 1 0) (38 + 2 * q) 2 (-1), ?_, ⟨fun z => ?_, fun _ => by simp (disch := omega) only [upS_h, upS_o, upS_i, Int.reduceAdd, Int.reduceSub, Int.reduceMul, Int.reduceNeg], by rw [upS_i (by omega), upS_i (by omega)]; exact a3⟩, fun o o1 o2 => by rw [upS_of o1, upS_of o1, a4 o o1 o2, fr o o1]⟩
    · rw [a2]
      unfold f_X1_miss
      simp (disch := omega) only [↓rdA_t, ↓wrA_t, ↓ixA_t, ↓wrF_d, ↓bd2_s, ↓bd1_s, ↓bnd_d, ↓iww_t, ↓iww_f, ↓iwl_t, ↓iwl_f, ↓ilw_t, ↓ilw_f, ↓eww_t, ↓eww_f, ↓ewl_t, ↓ewl_f, ↓ez_t, ↓ez_f, ↓il_t, ↓il_f, il_t, il_f, ez_t, ez_f, if_true, if_false, upS_h, upS_o, upS_i, Int.reduceAdd, Int.reduceSub, Int.reduceMul, Int.reduceNeg, wI_id]
    · unfold rnS at z
      omega
end
section
/-! ===== the reference chooses ===== -/
theorem m_best {σ α : St} {a k s M W : Int} (kx : St → Int → Option (Int × St)) (h : JM σ α) (hw : WF α) (hg : σ 118 27 = a) (ha : -1 ≤ a ∧ a < 40) (h2 : 0 ≤ k) (h3 : k < α 0 1) (hs : 0 ≤ s ∧ s ≤ 5) : ∀ (m x n : Nat), (x : Int) + m = α 0 0 → m < n → lp_X10_chooses_58 k s M W kx n σ (bsG α a k s x) x = kx σ (bsG α a k s (x + m)) := by
  intro m
  have w1 := hw.1.2.1
  have hc := h.1.1
  have hd := dT_r (k := k) hw.2.2.2.2
  induction m with
  | zero =>
    intro x n h1 hn
    obtain ⟨n, rfl⟩ : ∃ k, n = k + 1 := ⟨n - 1, by omega⟩
    rw [lp_X10_chooses_58]
    simp (disch := omega) only [↓rdA_t, ↓wrA_t, ↓ixA_t, ↓wrF_d, ↓bd2_s, ↓bd1_s, ↓bnd_d, ↓iww_t, ↓iww_f, ↓iwl_t, ↓iwl_f, ↓ilw_t, ↓ilw_f, ↓eww_t, ↓eww_f, ↓ewl_t, ↓ewl_f, ↓ez_t, ↓ez_f, ↓il_t, ↓il_f, il_t, il_f, ez_t, ez_f, if_true, if_false, upS_h, upS_o, upS_i, Int.reduceAdd, Int.reduceSub, Int.reduceMul, Int.reduceNeg, wI_id, Nat.add_zero]
  | succ m ih =>
    intro x n h1 hn
    obtain ⟨n, rfl⟩ : ∃ k, n = k + 1 := ⟨n - 1, by omega⟩
    have g := ih (x + 1) n (by omega) (by omega)
    rw [show x + 1 + m = x + (m + 1) by omega, show ((x + 1 : Nat) : Int) = (x : Int) + 1 by omega] at g
    rw [← g, bsG, lp_X10_chooses_58]
    have b0 := (bsG_p (a := a) (k := k) (s := s) hw.2.2.2.2 x).1
    have r := ag_p (u := x) (k := k) hw.2.2.2.2
    have e1 := m_at h.1 hw.1 (u := x) (w := 0) (by omega) (by omega) (by omega) (by omega)
    simp only [Int.reduceAdd] at e1
    have k1 := (hw.1.2.2 x (by omega) (by omega)).1
    have e2 := m_ag h hw (u := x) (k := k) (by omega) (by omega) h2 h3
    unfold jn_X10_chooses_92 jn_X10_chooses_110
    by_cases c1 : (x : Int) = a
    · rw [if_neg (show ¬ (¬ (x : Int) = a ∧ α 1 x = s) from fun z => z.1 c1)]
      simp (disch := omega) only [↓rdA_t, ↓wrA_t, ↓ixA_t, ↓wrF_d, ↓bd2_s, ↓bd1_s, ↓bnd_d, ↓iww_t, ↓iww_f, ↓iwl_t, ↓iwl_f, ↓ilw_t, ↓ilw_f, ↓eww_t, ↓eww_f, ↓ewl_t, ↓ewl_f, ↓ez_t, ↓ez_f, ↓il_t, ↓il_f, il_t, il_f, ez_t, ez_f, if_true, if_false, upS_h, upS_o, upS_i, Int.reduceAdd, Int.reduceSub, Int.reduceMul, Int.reduceNeg, wI_id]
    · by_cases c2 : α 1 x = s
      · rw [if_pos (show ¬ (x : Int) = a ∧ α 1 x = s from ⟨c1, c2⟩)]
        by_cases c3 : bsG α a k s x < ag α x k
        · simp (disch := omega) only [↓rdA_t, ↓wrA_t, ↓ixA_t, ↓wrF_d, ↓bd2_s, ↓bd1_s, ↓bnd_d, ↓iww_t, ↓iww_f, ↓iwl_t, ↓iwl_f, ↓ilw_t, ↓ilw_f, ↓eww_t, ↓eww_f, ↓ewl_t, ↓ewl_f, ↓ez_t, ↓ez_f, ↓il_t, ↓il_f, il_t, il_f, ez_t, ez_f, if_true, if_false, upS_h, upS_o, upS_i, Int.reduceAdd, Int.reduceSub, Int.reduceMul, Int.reduceNeg, wI_id, e1, e2]
        · simp (disch := omega) only [↓rdA_t, ↓wrA_t, ↓ixA_t, ↓wrF_d, ↓bd2_s, ↓bd1_s, ↓bnd_d, ↓iww_t, ↓iww_f, ↓iwl_t, ↓iwl_f, ↓ilw_t, ↓ilw_f, ↓eww_t, ↓eww_f, ↓ewl_t, ↓ewl_f, ↓ez_t, ↓ez_f, ↓il_t, ↓il_f, il_t, il_f, ez_t, ez_f, if_true, if_false, upS_h, upS_o, upS_i, Int.reduceAdd, Int.reduceSub, Int.reduceMul, Int.reduceNeg, wI_id, e1, e2]
      · rw [if_neg (show ¬ (¬ (x : Int) = a ∧ α 1 x = s) from fun z => c2 z.2)]
        simp (disch := omega) only [↓rdA_t, ↓wrA_t, ↓ixA_t, ↓wrF_d, ↓bd2_s, ↓bd1_s, ↓bnd_d, ↓iww_t, ↓iww_f, ↓iwl_t, ↓iwl_f, ↓ilw_t, ↓ilw_f, ↓eww_t, ↓eww_f, ↓ewl_t, ↓ewl_f, ↓ez_t, ↓ez_f, ↓il_t, ↓il_f, il_t, il_f, ez_t, ez_f, if_true, if_false, upS_h, upS_o, upS_i, Int.reduceAdd, Int.reduceSub, Int.reduceMul, Int.reduceNeg, wI_id, e1]
theorem m_gath {α : St} {a k s W b : Int} (kx : St → Int → Option (Int × St)) (hw : WF α) (ha : -1 ≤ a ∧ a < 40) (h2 : 0 ≤ k) (h3 : k < α 0 1) (hs : 0 ≤ s ∧ s ≤ 5) (hb : b = bst α a k s) : ∀ (m x : Nat) (σ : St) (n : Nat), JM σ α → σ 118 27 = a → (x : Int) + m = α 0 0 → (∀ i, 0 ≤ i → i < cnt (PL α a k s b) x → σ 135 (40 * k + i) = arr (PL α a k s b) x i) → m < n → ∃ τ, lp_X10_chooses_146 k s W b kx n σ (cnt (PL α a k s b) x) x = kx τ (cnt (PL α a k s b) (x + m)) ∧ (∀ i, 0 ≤ i → i < cnt (PL α a k s b) (x + m) → τ 135 (40 * k + i) = arr (PL α a k s b) (x + m) i) ∧ (∀ o, ¬ o = 135 → τ o = σ o) ∧ ∀ i, (i < 40 * k ∨ 40 * k + 40 ≤ i) → τ 135 i = σ 135 i := by
  intro m
  have w1 := hw.1.2.1
  have w2 := hw.2.1.2.1
  have hd := dT_r (k := k) hw.2.2.2.2
  obtain ⟨b1, b2, b3⟩ := bst_p (a := a) (k := k) (s := s) hw.2.2.2.2
  rw [← hb] at b1 b2 b3
  induction m with
  | zero =>
    intro x σ n h hg h1 hc hn
    obtain ⟨n, rfl⟩ : ∃ k, n = k + 1 := ⟨n - 1, by omega⟩
    have hc0 := h.1.1
    rw [lp_X10_chooses_146]
    exact ⟨σ, by simp (disch := omega) only [↓rdA_t, ↓wrA_t, ↓ixA_t, ↓wrF_d, ↓bd2_s, ↓bd1_s, ↓bnd_d, ↓iww_t, ↓iww_f, ↓iwl_t, ↓iwl_f, ↓ilw_t, ↓ilw_f, ↓eww_t, ↓eww_f, ↓ewl_t, ↓ewl_f, ↓ez_t, ↓ez_f, ↓il_t, ↓il_f, il_t, il_f, ez_t, ez_f, if_true, if_false, upS_h, upS_o, upS_i, Int.reduceAdd, Int.reduceSub, Int.reduceMul, Int.reduceNeg, wI_id, Nat.add_zero], hc, fun _ _ => rfl, fun _ _ => rfl⟩
  | succ m ih =>
    intro x σ n h hg h1 hc hn
    obtain ⟨n, rfl⟩ : ∃ k, n = k + 1 := ⟨n - 1, by omega⟩
    have hc0 := h.1.1
    have e1 := m_at h.1 hw.1 (u := x) (w := 0) (by omega) (by omega) (by omega) (by omega)
    simp only [Int.reduceAdd] at e1
    have k1 := (hw.1.2.2 x (by omega) (by omega)).1
    have e2 := m_ag h hw (u := x) (k := k) (by omega) (by omega) h2 h3
    have r := ag_p (u := x) (k := k) hw.2.2.2.2
    have cr := cnt_r (P := PL α a k s b) x
    have skip : ¬ PL α a k s b x → ∃ τ, lp_X10_chooses_146 k s W b kx n σ (cnt (PL α a k s b) x) ((x : Int) + 1) = kx τ (cnt (PL α a k s b) (x + (m + 1))) ∧ (∀ i, 0 ≤ i → i < cnt (PL α a k s b) (x + (m + 1)) → τ 135 (40 * k + i) = arr (PL α a k s b) (x + (m + 1)) i) ∧ (∀ o, ¬ o = 135 → τ o = σ o) ∧ ∀ i, (i < 40 * k ∨ 40 * k + 40 ≤ i) → τ 135 i = σ 135 i := by
      intro hp
      have g := ih (x + 1) σ n h hg (by omega) (fun i i1 i2 => by rw [cnt, if_neg hp] at i2; rw [arr, if_neg hp]; exact hc i i1 i2) (by omega)
      rw [show x + 1 + m = x + (m + 1) by omega, show ((x + 1 : Nat) : Int) = (x : Int) + 1 by omega] at g
      rw [cnt, if_neg hp] at g
      exact g
    rw [lp_X10_chooses_146]
    by_cases c1 : (x : Int) = a
    · obtain ⟨τ, g⟩ := skip (fun z => z.1 c1)
      refine ⟨τ, ?_, g.2⟩
      rw [← g.1]
      simp (disch := omega) only [↓rdA_t, ↓wrA_t, ↓ixA_t, ↓wrF_d, ↓bd2_s, ↓bd1_s, ↓bnd_d, ↓iww_t, ↓iww_f, ↓iwl_t, ↓iwl_f, ↓ilw_t, ↓ilw_f, ↓eww_t, ↓eww_f, ↓ewl_t, ↓ewl_f, ↓ez_t, ↓ez_f, ↓il_t, ↓il_f, il_t, il_f, ez_t, ez_f, if_true, if_false, upS_h, upS_o, upS_i, Int.reduceAdd, Int.reduceSub, Int.reduceMul, Int.reduceNeg, wI_id]
    · by_cases c2 : α 1 x = s
      · have le := b2 x (by omega) c1 c2
        by_cases c3 : b ≤ ag α x k
        · have hp : PL α a k s b x := ⟨c1, c2, c3⟩
          have hI : JM (upS σ 135 (40 * k + cnt (PL α a k s b) x) x) α := JM_scr (fun i _ => upS_o (by omega)) (fun o o1 o2 => upS_of (by omega)) h
          have g := ih (x + 1) (upS σ 135 (40 * k + cnt (PL α a k s b) x) x) n hI (by rw [upS_o (by omega)]; exact hg) (by omega) (fun i i1 i2 => by
            rw [cnt, if_pos hp] at i2
            rw [arr, if_pos hp]
            by_cases c4 : i = cnt (PL α a k s b) x
            · rw [if_pos c4, upS_h ⟨rfl, by omega⟩]
            · rw [if_neg c4, upS_i (by omega)]; exact hc i i1 (by omega)) (by omega)
          obtain ⟨τ, g1, g2, g3, g4⟩ := g
          rw [show x + 1 + m = x + (m + 1) by omega] at g1 g2
          rw [show ((x + 1 : Nat) : Int) = (x : Int) + 1 by omega] at g1
          rw [cnt, if_pos hp] at g1
          refine ⟨τ, ?_, g2, fun o o1 => by rw [g3 o o1, upS_of o1], fun i i1 => by rw [g4 i i1, upS_i (by omega)]⟩
          rw [← g1]
          simp (disch := omega) only [↓rdA_t, ↓wrA_t, ↓ixA_t, ↓wrF_d, ↓bd2_s, ↓bd1_s, ↓bnd_d, ↓iww_t, ↓iww_f, ↓iwl_t, ↓iwl_f, ↓ilw_t, ↓ilw_f, ↓eww_t, ↓eww_f, ↓ewl_t, ↓ewl_f, ↓ez_t, ↓ez_f, ↓il_t, ↓il_f, il_t, il_f, ez_t, ez_f, if_true, if_false, upS_h, upS_o, upS_i, Int.reduceAdd, Int.reduceSub, Int.reduceMul, Int.reduceNeg, wI_id, e1, e2]
        · obtain ⟨τ, g⟩ := skip (fun z => c3 z.2.2)
          refine ⟨τ, ?_, g.2⟩
          rw [← g.1]
          simp (disch := omega) only [↓rdA_t, ↓wrA_t, ↓ixA_t, ↓wrF_d, ↓bd2_s, ↓bd1_s, ↓bnd_d, ↓iww_t, ↓iww_f, ↓iwl_t, ↓iwl_f, ↓ilw_t, ↓ilw_f, ↓eww_t, ↓eww_f, ↓ewl_t, ↓ewl_f, ↓ez_t, ↓ez_f, ↓il_t, ↓il_f, il_t, il_f, ez_t, ez_f, if_true, if_false, upS_h, upS_o, upS_i, Int.reduceAdd, Int.reduceSub, Int.reduceMul, Int.reduceNeg, wI_id, e1, e2]
      · obtain ⟨τ, g⟩ := skip (fun z => c2 z.2.1)
        refine ⟨τ, ?_, g.2⟩
        rw [← g.1]
        simp (disch := omega) only [↓rdA_t, ↓wrA_t, ↓ixA_t, ↓wrF_d, ↓bd2_s, ↓bd1_s, ↓bnd_d, ↓iww_t, ↓iww_f, ↓iwl_t, ↓iwl_f, ↓ilw_t, ↓ilw_f, ↓eww_t, ↓eww_f, ↓ewl_t, ↓ewl_f, ↓ez_t, ↓ez_f, ↓il_t, ↓il_f, il_t, il_f, ez_t, ez_f, if_true, if_false, upS_h, upS_o, upS_i, Int.reduceAdd, Int.reduceSub, Int.reduceMul, Int.reduceNeg, wI_id, e1]
/-- the frame of the reference's choosing for target k -/
def mFr (σ τ : St) (k : Int) : Prop := (∀ o, ¬ o = 118 → ¬ o = 135 → ¬ o = 136 → τ o = σ o) ∧ (∀ i, ¬ i = 28 → ¬ i = 29 → τ 118 i = σ 118 i) ∧ (∀ i, (i < 40 * k ∨ 40 * k + 40 ≤ i) → τ 135 i = σ 135 i) ∧ ∀ i, ¬ i = k → τ 136 i = σ 136 i
theorem mFr_t {σ τ ρ : St} {k : Int} (h1 : mFr σ τ k) (h2 : mFr τ ρ k) : mFr σ ρ k := ⟨fun o a b c => (h2.1 o a b c).trans (h1.1 o a b c), fun i a b => (h2.2.1 i a b).trans (h1.2.1 i a b), fun i a => (h2.2.2.1 i a).trans (h1.2.2.1 i a), fun i a => (h2.2.2.2 i a).trans (h1.2.2.2 i a)⟩
theorem mFr_J {σ τ α : St} {k : Int} (h : mFr σ τ k) (hJ : JM σ α) : JM τ α := JM_scr (fun i _ => h.2.1 i (by omega) (by omega)) (fun o _ _ => h.1 o (by omega) (by omega) (by omega)) hJ
theorem m_rounds {α : St} {k a : Int} (kx : St → Option (Int × St)) (hw : WF α) (h2 : 0 ≤ k) (h3 : k < α 0 1) (ha : -1 ≤ a ∧ a < 40) : ∀ (m : Nat) (σ : St) (s M x t : Int) (n : Nat), JM σ α → σ 118 27 = a → 0 ≤ s ∧ s ≤ 5 → 0 ≤ M ∧ M ≤ 63 → un M = m → σ 118 28 = x → σ 118 29 = t → m < n →
    ((rnG α a k m s M x t).1 = 1 ∧ ∃ τ, lp_X10_chooses_28 k (dT α k) kx n σ s M = some (1, τ) ∧ τ 118 28 = (rnG α a k m s M x t).2.1 ∧ τ 118 29 = (rnG α a k m s M x t).2.2.1 ∧ τ 136 k = chN α a k (rnG α a k m s M x t).2.2.2 (bst α a k (rnG α a k m s M x t).2.2.2) ∧ (∀ i, 0 ≤ i → i < chN α a k (rnG α a k m s M x t).2.2.2 (bst α a k (rnG α a k m s M x t).2.2.2) → τ 135 (40 * k + i) = chU α a k (rnG α a k m s M x t).2.2.2 (bst α a k (rnG α a k m s M x t).2.2.2) i) ∧ mFr σ τ k) ∨
    ((rnG α a k m s M x t).1 = 0 ∧ ∃ τ, lp_X10_chooses_28 k (dT α k) kx n σ s M = kx τ ∧ τ 118 29 = (rnG α a k m s M x t).2.2.1 ∧ mFr σ τ k) := by
  intro m
  have hd := dT_r (k := k) hw.2.2.2.2
  have w0 := hw.1.1
  have w1 := hw.1.2.1
  have w2 := hw.2.1.2.1
  induction m with
  | zero =>
    intro σ s M x t n h hg hs hM hu h4 h5 hn
    obtain ⟨n, rfl⟩ : ∃ k, n = k + 1 := ⟨n - 1, by omega⟩
    obtain ⟨k1, k2, k3, k4⟩ := mk_e hM hs
    have c := k3 hu
    right
    unfold bt at c
    rw [lp_X10_chooses_28, rnG, if_neg c]
    exact ⟨rfl, σ, rfl, h5, fun _ _ _ _ => rfl, fun _ _ _ => rfl, fun _ _ => rfl, fun _ _ => rfl⟩
  | succ m ih =>
    intro σ s M x t n h hg hs hM hu h4 h5 hn
    obtain ⟨n, rfl⟩ : ∃ k, n = k + 1 := ⟨n - 1, by omega⟩
    obtain ⟨k1, k2, k3, k4⟩ := mk_e hM hs
    rw [rnG]
    by_cases c : bt M s = 0
    · obtain ⟨k5, k6⟩ := k2 c
      rw [if_pos c]
      unfold bt at c
      have nx := hw.2.2.1.2 s hs.1 (by omega)
      have b0 := (bst_p (a := a) (k := k) (s := s) hw.2.2.2.2).1
      have fr1 : mFr σ (upS σ 118 29 (σ 118 29 + 1)) k := ⟨fun o a b c => upS_of a, fun i a b => upS_i b, fun i _ => upS_o (by omega), fun i _ => upS_o (by omega)⟩
      have hI := mFr_J fr1 h
      have mb := m_best (σ := upS σ 118 29 (σ 118 29 + 1)) (α := α) (a := a) (k := k) (s := s) (M := orI M (shlI 1 s)) (W := dT α k) (fun σ18 y19 => if wI y19 = (-1) then wrF σ18 118 28 ((σ18 118 28) + (dT α k + 1)) fun σ21 => rdA 6 σ21 121 s fun v22 => lp_X10_chooses_28 k (dT α k) kx n σ21 v22 (orI M (shlI 1 s)) else lp_X10_chooses_146 k s (dT α k) y19 (fun σ30 y31 => wrA 8 σ30 136 k y31 fun σ32 => wrF σ32 118 28 ((σ32 118 28) + (dT α k - y19)) fun σ33 => some (1, σ33)) 1000 σ18 0 0) hI hw (by rw [upS_i (by omega)]; exact hg) ha h2 h3 hs (α 0 0).toNat 0 1000 (by omega) (by omega)
      rw [Nat.zero_add, bsG] at mb
      have ebs : bsG α a k s (α 0 0).toNat = bst α a k s := rfl
      rw [ebs] at mb
      have ev : lp_X10_chooses_28 k (dT α k) kx (n + 1) σ s M = (if wI (bst α a k s) = (-1) then wrF (upS σ 118 29 (σ 118 29 + 1)) 118 28 ((upS σ 118 29 (σ 118 29 + 1) 118 28) + (dT α k + 1)) fun σ21 => rdA 6 σ21 121 s fun v22 => lp_X10_chooses_28 k (dT α k) kx n σ21 v22 (orI M (shlI 1 s)) else lp_X10_chooses_146 k s (dT α k) (bst α a k s) (fun σ30 y31 => wrA 8 σ30 136 k y31 fun σ32 => wrF σ32 118 28 ((σ32 118 28) + (dT α k - bst α a k s)) fun σ33 => some (1, σ33)) 1000 (upS σ 118 29 (σ 118 29 + 1)) 0 0) := by
        rw [lp_X10_chooses_28, if_pos c, bnd_d, wrF_d]
        exact mb
      rw [ev]
      by_cases c2 : 0 ≤ bst α a k s
      · rw [if_pos c2]
        left
        obtain ⟨τ, g1, g2, g3, g4⟩ := m_gath (α := α) (a := a) (k := k) (s := s) (W := dT α k) (b := bst α a k s) (fun σ30 y31 => wrA 8 σ30 136 k y31 fun σ32 => wrF σ32 118 28 ((σ32 118 28) + (dT α k - bst α a k s)) fun σ33 => some (1, σ33)) hw ha h2 h3 hs rfl (α 0 0).toNat 0 (upS σ 118 29 (σ 118 29 + 1)) 1000 hI (by rw [upS_i (by omega)]; exact hg) (by omega) (fun i i1 i2 => by rw [cnt] at i2; omega) (by omega)
        rw [Nat.zero_add] at g1 g2
        rw [cnt] at g1
        have fr2 : mFr (upS σ 118 29 (σ 118 29 + 1)) (upS (upS τ 136 k (cnt (PL α a k s (bst α a k s)) (α 0 0).toNat)) 118 28 (τ 118 28 + (dT α k - bst α a k s))) k := ⟨fun o a b c => by rw [upS_of a, upS_of c, g3 o b], fun i a b => by rw [upS_i a, upS_o (by omega), g3 118 (by omega)], fun i hi => by rw [upS_o (by omega), upS_o (by omega), g4 i hi], fun i hi => by rw [upS_o (by omega), upS_i hi, g3 136 (by omega)]⟩
        refine ⟨rfl, upS (upS τ 136 k (cnt (PL α a k s (bst α a k s)) (α 0 0).toNat)) 118 28 (τ 118 28 + (dT α k - bst α a k s)), ?_, ?_, ?_, ?_, ?_, mFr_t fr1 fr2⟩
        · rw [ewl_f (by omega)]
          have e0 : (((0 : Nat)) : Int) = 0 := rfl
          rw [e0] at g1
          rw [g1]
          simp (disch := omega) only [↓rdA_t, ↓wrA_t, ↓ixA_t, ↓wrF_d, ↓bd2_s, ↓bd1_s, ↓bnd_d, ↓iww_t, ↓iww_f, ↓iwl_t, ↓iwl_f, ↓ilw_t, ↓ilw_f, ↓eww_t, ↓eww_f, ↓ewl_t, ↓ewl_f, ↓ez_t, ↓ez_f, ↓il_t, ↓il_f, il_t, il_f, ez_t, ez_f, if_true, if_false, upS_h, upS_o, upS_i, Int.reduceAdd, Int.reduceSub, Int.reduceMul, Int.reduceNeg, wI_id]
        · rw [upS_h ⟨rfl, rfl⟩, g3 118 (by omega), upS_i (by omega), h4]
        · rw [upS_i (by omega), upS_o (by omega), g3 118 (by omega), upS_h ⟨rfl, rfl⟩, h5]
        · rw [upS_o (by omega), upS_h ⟨rfl, rfl⟩]; rfl
        · intro i i1 i2
          rw [upS_o (by omega), upS_o (by omega)]
          exact g2 i i1 i2
      · rw [if_neg c2, ewl_t (by omega), wrF_d]
        have fr2 : mFr (upS σ 118 29 (σ 118 29 + 1)) (upS (upS σ 118 29 (σ 118 29 + 1)) 118 28 (upS σ 118 29 (σ 118 29 + 1) 118 28 + (dT α k + 1))) k := ⟨fun o a b c => upS_of a, fun i a b => upS_i a, fun i _ => upS_o (by omega), fun i _ => upS_o (by omega)⟩
        have hI2 := mFr_J fr2 hI
        have eo := hI2.2.2.1.2 s hs.1 (by omega)
        rw [rdA_t (by omega), eo]
        have g := ih (upS (upS σ 118 29 (σ 118 29 + 1)) 118 28 (upS σ 118 29 (σ 118 29 + 1) 118 28 + (dT α k + 1))) (α 10 s) (orI M (shlI 1 s)) (x + (dT α k + 1)) (t + 1) n hI2 (by rw [upS_i (by omega), upS_i (by omega)]; exact hg) nx k6 (by omega) (by rw [upS_h ⟨rfl, rfl⟩, upS_i (by omega), h4]) (by rw [upS_i (by omega), upS_h ⟨rfl, rfl⟩, h5]) (by omega)
        rcases g with ⟨a1, τ2, a2, a3, a4, a5, a6, a7⟩ | ⟨a1, τ2, a2, a3, a4⟩
        · left
          exact ⟨a1, τ2, a2, a3, a4, a5, a6, mFr_t (mFr_t fr1 fr2) a7⟩
        · right
          exact ⟨a1, τ2, a2, a3, mFr_t (mFr_t fr1 fr2) a4⟩
    · rw [if_neg c]
      unfold bt at c
      right
      rw [lp_X10_chooses_28, if_neg c]
      exact ⟨rfl, σ, rfl, h5, fun _ _ _ _ => rfl, fun _ _ _ => rfl, fun _ _ => rfl, fun _ _ => rfl⟩
/-- the reference's choice for target k stands in its cells -/
def mCh (σ α : St) (a k : Int) : Prop := σ 136 k = nCh α a k ∧ ∀ i, 0 ≤ i → i < nCh α a k → σ 135 (40 * k + i) = uCh α a k i
theorem m_choose {σ α : St} {k a : Int} (h : JM σ α) (hw : WF α) (hg : σ 118 27 = a) (ha : -1 ≤ a ∧ a < 40) (h2 : 0 ≤ k) (h3 : k < α 0 1) : ∃ τ, f_X10_chooses σ k = some ((rnS α a k).1, τ) ∧ ((rnS α a k).1 = 1 → mCh τ α a k ∧ τ 118 28 = (rnS α a k).2.1) ∧ τ 118 29 = (rnS α a k).2.2.1 ∧ mFr σ τ k := by
  have w := hw.2.1.2.1
  have k1 := (hw.2.1.2.2 k h2 h3).1
  have e1 := h.2.1.2 k 0 h2 h3 (by omega) (by omega)
  rw [Int.add_zero, Int.add_zero] at e1
  have fr0 : mFr σ (upS (upS σ 118 28 0) 118 29 0) k := ⟨fun o a b c => by rw [upS_of a, upS_of a], fun i a b => by rw [upS_i b, upS_i a], fun i _ => by rw [upS_o (by omega), upS_o (by omega)], fun i _ => by rw [upS_o (by omega), upS_o (by omega)]⟩
  have hI := mFr_J fr0 h
  have g := m_rounds (α := α) (k := k) (a := a) (fun σ34 => some (0, σ34)) hw h2 h3 ha 6 (upS (upS σ 118 28 0) 118 29 0) (α 7 k) 0 0 0 1000 hI (by simp (disch := omega) only [upS_h, upS_o, upS_i, Int.reduceAdd, Int.reduceSub, Int.reduceMul, Int.reduceNeg]; exact hg) k1 (by omega) un_0 (by simp (disch := omega) only [upS_h, upS_o, upS_i, Int.reduceAdd, Int.reduceSub, Int.reduceMul, Int.reduceNeg]) (by simp (disch := omega) only [upS_h, upS_o, upS_i, Int.reduceAdd, Int.reduceSub, Int.reduceMul, Int.reduceNeg]) (by omega)
  have ev : f_X10_chooses σ k = lp_X10_chooses_28 k (dT α k) (fun σ34 => some (0, σ34)) 1000 (upS (upS σ 118 28 0) 118 29 0) (α 7 k) 0 := by
    unfold f_X10_chooses
    simp (disch := omega) only [↓rdA_t, ↓wrA_t, ↓ixA_t, ↓wrF_d, ↓bd2_s, ↓bd1_s, ↓bnd_d, ↓iww_t, ↓iww_f, ↓iwl_t, ↓iwl_f, ↓ilw_t, ↓ilw_f, ↓eww_t, ↓eww_f, ↓ewl_t, ↓ewl_f, ↓ez_t, ↓ez_f, ↓il_t, ↓il_f, il_t, il_f, ez_t, ez_f, if_true, if_false, upS_h, upS_o, upS_i, Int.reduceAdd, Int.reduceSub, Int.reduceMul, Int.reduceNeg, wI_id, m_way h hw h2 h3, e1]
  rw [ev]
  rcases g with ⟨a1, τ, a2, a3, a4, a5, a6, a7⟩ | ⟨a1, τ, a2, a3, a4⟩
  · exact ⟨τ, by rw [a2]; unfold rnS; rw [a1], fun _ => ⟨⟨a5, a6⟩, a3⟩, a4, mFr_t fr0 a7⟩
  · refine ⟨τ, by rw [a2]; unfold rnS; rw [a1], fun z => ?_, a3, mFr_t fr0 a4⟩
    unfold rnS at z
    omega
/-! ===== choice, steps, tried ===== -/
def rSt (α : St) (k : Int) : Int := if 0 ≤ k ∧ k < α 0 1 then (if (rnS α (-1) k).1 = 0 then -1 else (rnS α (-1) k).2.1) else -2
def rTr (α : St) (k : Int) : Int := if 0 ≤ k ∧ k < α 0 1 then (rnS α (-1) k).2.2.1 else -2
def aKT (α : St) (k : Int) : St := if 0 ≤ k ∧ k < α 0 1 then α else aR α 3
theorem c_choose1 {σ α : St} {q : Int} (h : IC σ α) (hw : WF α) (h0 : 0 ≤ q) (h1 : q < α 0 1) : ∃ τ, f_X2_choose σ q (-1) = some (38 + 2 * q, τ) ∧ cCh τ α (-1) q ∧ IC τ α ∧ ∀ o, 118 ≤ o → τ o = σ o := by
  have w := hw.2.1.2.1
  obtain ⟨τ, f1, f2, f3⟩ := c_leaves h hw
  have hI : IC τ α := IC_scr (fun o ho i _ => by rw [f3 o (by omega)]) h
  obtain ⟨ρ, g1, g2, g3⟩ := c_choose hI f2 hw h0 h1 (a := -1) (by omega)
  refine ⟨ρ, ?_, g2, IC_scr (fun o ho i _ => by rw [g3 o (by omega) (by omega)]) hI, fun o ho => by rw [g3 o (by omega) (by omega), f3 o (by omega)]⟩
  unfold f_X2_choose
  simp (disch := omega) only [↓rdA_t, ↓wrA_t, ↓ixA_t, ↓wrF_d, ↓bd2_s, ↓bd1_s, ↓bnd_d, ↓iww_t, ↓iww_f, ↓iwl_t, ↓iwl_f, ↓ilw_t, ↓ilw_f, ↓eww_t, ↓eww_f, ↓ewl_t, ↓ewl_f, ↓ez_t, ↓ez_f, ↓il_t, ↓il_f, il_t, il_f, ez_t, ez_f, if_true, if_false, upS_h, upS_o, upS_i, Int.reduceAdd, Int.reduceSub, Int.reduceMul, Int.reduceNeg, wI_id, f1, g1]
theorem mFr_I {σ τ α : St} {k : Int} (h : mFr σ τ k) (hI : IM σ α) : IM τ α := IM_scr (fun i hi => h.2.1 i (by unfold mF at hi; omega) (by unfold mF at hi; omega)) (fun o _ _ => h.1 o (by omega) (by omega) (by omega)) hI
theorem xc_steps {σ α : St} {k : Int} (h : IC σ α) (hw : WF α) (hk : inR k) : oC (f_X9_steps σ k) σ α (rSt α k) (aKT α k) := by
  unfold f_X9_steps rSt aKT
  rw [c_isT h.2.1 hw.2.1 hk]
  by_cases c : 0 ≤ k ∧ k < α 0 1
  · obtain ⟨τ, g1, g2, g3, g4⟩ := c_choose1 h hw c.1 c.2
    have r := (rnS_r (a := -1) hw c.1 c.2).1
    rw [if_pos c, if_pos c, if_pos c]
    refine ⟨τ, ?_, g3, g4⟩
    by_cases c2 : (rnS α (-1) k).1 = 0
    · simp (disch := omega) only [↓rdA_t, ↓wrA_t, ↓ixA_t, ↓wrF_d, ↓bd2_s, ↓bd1_s, ↓bnd_d, ↓iww_t, ↓iww_f, ↓iwl_t, ↓iwl_f, ↓ilw_t, ↓ilw_f, ↓eww_t, ↓eww_f, ↓ewl_t, ↓ewl_f, ↓ez_t, ↓ez_f, ↓il_t, ↓il_f, il_t, il_f, ez_t, ez_f, if_true, if_false, upS_h, upS_o, upS_i, Int.reduceAdd, Int.reduceSub, Int.reduceMul, Int.reduceNeg, wI_id, g1, g2.2.1 c2]
    · simp (disch := omega) only [↓rdA_t, ↓wrA_t, ↓ixA_t, ↓wrF_d, ↓bd2_s, ↓bd1_s, ↓bnd_d, ↓iww_t, ↓iww_f, ↓iwl_t, ↓iwl_f, ↓ilw_t, ↓ilw_f, ↓eww_t, ↓eww_f, ↓ewl_t, ↓ewl_f, ↓ez_t, ↓ez_f, ↓il_t, ↓il_f, il_t, il_f, ez_t, ez_f, if_true, if_false, upS_h, upS_o, upS_i, Int.reduceAdd, Int.reduceSub, Int.reduceMul, Int.reduceNeg, wI_id, g1, (g2.1 (by omega)).2.1]
  · rw [if_neg c, if_neg c, if_neg c]
    simp (disch := omega) only [↓rdA_t, ↓wrA_t, ↓ixA_t, ↓wrF_d, ↓bd2_s, ↓bd1_s, ↓bnd_d, ↓iww_t, ↓iww_f, ↓iwl_t, ↓iwl_f, ↓ilw_t, ↓ilw_f, ↓eww_t, ↓eww_f, ↓ewl_t, ↓ewl_f, ↓ez_t, ↓ez_f, ↓il_t, ↓il_f, il_t, il_f, ez_t, ez_f, if_true, if_false, upS_h, upS_o, upS_i, Int.reduceAdd, Int.reduceSub, Int.reduceMul, Int.reduceNeg, wI_id]
    exact oC_id (oC_bad h)
theorem xc_tried {σ α : St} {k : Int} (h : IC σ α) (hw : WF α) (hk : inR k) : oC (f_X9_tried σ k) σ α (rTr α k) (aKT α k) := by
  unfold f_X9_tried rTr aKT
  rw [c_isT h.2.1 hw.2.1 hk]
  by_cases c : 0 ≤ k ∧ k < α 0 1
  · obtain ⟨τ, g1, g2, g3, g4⟩ := c_choose1 h hw c.1 c.2
    rw [if_pos c, if_pos c, if_pos c]
    refine ⟨τ, ?_, g3, g4⟩
    simp (disch := omega) only [↓rdA_t, ↓wrA_t, ↓ixA_t, ↓wrF_d, ↓bd2_s, ↓bd1_s, ↓bnd_d, ↓iww_t, ↓iww_f, ↓iwl_t, ↓iwl_f, ↓ilw_t, ↓ilw_f, ↓eww_t, ↓eww_f, ↓ewl_t, ↓ewl_f, ↓ez_t, ↓ez_f, ↓il_t, ↓il_f, il_t, il_f, ez_t, ez_f, if_true, if_false, upS_h, upS_o, upS_i, Int.reduceAdd, Int.reduceSub, Int.reduceMul, Int.reduceNeg, wI_id, g1, g2.2.2]
  · rw [if_neg c, if_neg c, if_neg c]
    simp (disch := omega) only [↓rdA_t, ↓wrA_t, ↓ixA_t, ↓wrF_d, ↓bd2_s, ↓bd1_s, ↓bnd_d, ↓iww_t, ↓iww_f, ↓iwl_t, ↓iwl_f, ↓ilw_t, ↓ilw_f, ↓eww_t, ↓eww_f, ↓ewl_t, ↓ewl_f, ↓ez_t, ↓ez_f, ↓il_t, ↓il_f, il_t, il_f, ez_t, ez_f, if_true, if_false, upS_h, upS_o, upS_i, Int.reduceAdd, Int.reduceSub, Int.reduceMul, Int.reduceNeg, wI_id]
    exact oC_id (oC_bad h)
theorem xm_steps {σ α : St} {k : Int} (h : IM σ α) (hw : WF α) (hk : inR k) : oM (f_X10_steps σ k) σ α (rSt α k) (aKT α k) := by
  unfold f_X10_steps rSt aKT
  rw [m_isT h.2.1 hw.2.1 hk]
  by_cases c : 0 ≤ k ∧ k < α 0 1
  · obtain ⟨τ, g1, g2, g3, g4⟩ := m_choose (JM_of h) hw h.2.2.1.2.2.2.2.2 (by omega) c.1 c.2
    have r := (rnS_r (a := -1) hw c.1 c.2).1
    rw [if_pos c, if_pos c, if_pos c]
    refine ⟨τ, ?_, mFr_I g4 h, fun o ho => g4.1 o (by omega) (by omega) (by omega)⟩
    by_cases c2 : (rnS α (-1) k).1 = 0
    · simp (disch := omega) only [↓rdA_t, ↓wrA_t, ↓ixA_t, ↓wrF_d, ↓bd2_s, ↓bd1_s, ↓bnd_d, ↓iww_t, ↓iww_f, ↓iwl_t, ↓iwl_f, ↓ilw_t, ↓ilw_f, ↓eww_t, ↓eww_f, ↓ewl_t, ↓ewl_f, ↓ez_t, ↓ez_f, ↓il_t, ↓il_f, il_t, il_f, ez_t, ez_f, if_true, if_false, upS_h, upS_o, upS_i, Int.reduceAdd, Int.reduceSub, Int.reduceMul, Int.reduceNeg, wI_id, g1]
    · simp (disch := omega) only [↓rdA_t, ↓wrA_t, ↓ixA_t, ↓wrF_d, ↓bd2_s, ↓bd1_s, ↓bnd_d, ↓iww_t, ↓iww_f, ↓iwl_t, ↓iwl_f, ↓ilw_t, ↓ilw_f, ↓eww_t, ↓eww_f, ↓ewl_t, ↓ewl_f, ↓ez_t, ↓ez_f, ↓il_t, ↓il_f, il_t, il_f, ez_t, ez_f, if_true, if_false, upS_h, upS_o, upS_i, Int.reduceAdd, Int.reduceSub, Int.reduceMul, Int.reduceNeg, wI_id, g1, (g2 (by omega)).2]
  · rw [if_neg c, if_neg c, if_neg c]
    simp (disch := omega) only [↓rdA_t, ↓wrA_t, ↓ixA_t, ↓wrF_d, ↓bd2_s, ↓bd1_s, ↓bnd_d, ↓iww_t, ↓iww_f, ↓iwl_t, ↓iwl_f, ↓ilw_t, ↓ilw_f, ↓eww_t, ↓eww_f, ↓ewl_t, ↓ewl_f, ↓ez_t, ↓ez_f, ↓il_t, ↓il_f, il_t, il_f, ez_t, ez_f, if_true, if_false, upS_h, upS_o, upS_i, Int.reduceAdd, Int.reduceSub, Int.reduceMul, Int.reduceNeg, wI_id]
    exact oM_id (oM_bad (-2) h)
theorem xm_tried {σ α : St} {k : Int} (h : IM σ α) (hw : WF α) (hk : inR k) : oM (f_X10_tried σ k) σ α (rTr α k) (aKT α k) := by
  unfold f_X10_tried rTr aKT
  rw [m_isT h.2.1 hw.2.1 hk]
  by_cases c : 0 ≤ k ∧ k < α 0 1
  · obtain ⟨τ, g1, g2, g3, g4⟩ := m_choose (JM_of h) hw h.2.2.1.2.2.2.2.2 (by omega) c.1 c.2
    rw [if_pos c, if_pos c, if_pos c]
    refine ⟨τ, ?_, mFr_I g4 h, fun o ho => g4.1 o (by omega) (by omega) (by omega)⟩
    simp (disch := omega) only [↓rdA_t, ↓wrA_t, ↓ixA_t, ↓wrF_d, ↓bd2_s, ↓bd1_s, ↓bnd_d, ↓iww_t, ↓iww_f, ↓iwl_t, ↓iwl_f, ↓ilw_t, ↓ilw_f, ↓eww_t, ↓eww_f, ↓ewl_t, ↓ewl_f, ↓ez_t, ↓ez_f, ↓il_t, ↓il_f, il_t, il_f, ez_t, ez_f, if_true, if_false, upS_h, upS_o, upS_i, Int.reduceAdd, Int.reduceSub, Int.reduceMul, Int.reduceNeg, wI_id, g1, g3]
  · rw [if_neg c, if_neg c, if_neg c]
    simp (disch := omega) only [↓rdA_t, ↓wrA_t, ↓ixA_t, ↓wrF_d, ↓bd2_s, ↓bd1_s, ↓bnd_d, ↓iww_t, ↓iww_f, ↓iwl_t, ↓iwl_f, ↓ilw_t, ↓ilw_f, ↓eww_t, ↓eww_f, ↓ewl_t, ↓ewl_f, ↓ez_t, ↓ez_f, ↓il_t, ↓il_f, il_t, il_f, ez_t, ez_f, if_true, if_false, upS_h, upS_o, upS_i, Int.reduceAdd, Int.reduceSub, Int.reduceMul, Int.reduceNeg, wI_id]
    exact oM_id (oM_bad (-2) h)
theorem wf_kt {α : St} {k : Int} (hw : WF α) : WF (aKT α k) := by
  unfold aKT
  by_cases c : 0 ≤ k ∧ k < α 0 1
  · rw [if_pos c]; exact hw
  · rw [if_neg c]; exact WF_aR 3 (by omega) hw
end
section
/-! ===== choice ===== -/
theorem oC_tr {f : Option (Int × St)} {σ τ α : St} {r : Int} {β : St} (ht : ∀ o, 118 ≤ o → τ o = σ o) (h : oC f τ α r β) : oC f σ α r β := by
  obtain ⟨ρ, a1, a2, a3⟩ := h
  exact ⟨ρ, a1, a2, fun o ho => (a3 o ho).trans (ht o ho)⟩
theorem oM_tr {f : Option (Int × St)} {σ τ α : St} {r : Int} {β : St} (ht : ∀ o, o < 118 → τ o = σ o) (h : oM f τ α r β) : oM f σ α r β := by
  obtain ⟨ρ, a1, a2, a3⟩ := h
  exact ⟨ρ, a1, a2, fun o ho => (a3 o ho).trans (ht o ho)⟩
abbrev isPl (α : St) (k : Int) : Prop := (0 ≤ k ∧ k ≤ 7) ∧ (0 < α 0 1 → k < α 0 1)
theorem c_isPl {σ α : St} {k : Int} (h : cR σ α) (hw : wR α) (hk : inR k) : f_X9_isPlace σ k = if isPl α k then 1 else 0 := by
  have e := c_isT h hw hk
  unfold inR at hk
  obtain ⟨w1, w2, w3⟩ := hw
  have hs := h.1
  unfold f_X9_isPlace
  rw [e]
  by_cases c0 : α 0 1 = 0
  · by_cases c : 0 ≤ k ∧ k ≤ 7
    · rw [if_pos (show isPl α k from ⟨c, by omega⟩)]
      simp (disch := omega) only [↓rdA_t, ↓wrA_t, ↓ixA_t, ↓wrF_d, ↓bd2_s, ↓bd1_s, ↓bnd_d, ↓iww_t, ↓iww_f, ↓iwl_t, ↓iwl_f, ↓ilw_t, ↓ilw_f, ↓eww_t, ↓eww_f, ↓ewl_t, ↓ewl_f, ↓ez_t, ↓ez_f, ↓il_t, ↓il_f, il_t, il_f, ez_t, ez_f, if_true, if_false, upS_h, upS_o, upS_i, Int.reduceAdd, Int.reduceSub, Int.reduceMul, Int.reduceNeg, wI_id, within_t]
    · rw [if_neg (show ¬ isPl α k from fun z => c z.1)]
      simp (disch := omega) only [↓rdA_t, ↓wrA_t, ↓ixA_t, ↓wrF_d, ↓bd2_s, ↓bd1_s, ↓bnd_d, ↓iww_t, ↓iww_f, ↓iwl_t, ↓iwl_f, ↓ilw_t, ↓ilw_f, ↓eww_t, ↓eww_f, ↓ewl_t, ↓ewl_f, ↓ez_t, ↓ez_f, ↓il_t, ↓il_f, il_t, il_f, ez_t, ez_f, if_true, if_false, upS_h, upS_o, upS_i, Int.reduceAdd, Int.reduceSub, Int.reduceMul, Int.reduceNeg, wI_id, within_f]
  · by_cases c : 0 ≤ k ∧ k < α 0 1
    · rw [if_pos (show isPl α k from ⟨by omega, by omega⟩), if_pos c]
      simp (disch := omega) only [↓rdA_t, ↓wrA_t, ↓ixA_t, ↓wrF_d, ↓bd2_s, ↓bd1_s, ↓bnd_d, ↓iww_t, ↓iww_f, ↓iwl_t, ↓iwl_f, ↓ilw_t, ↓ilw_f, ↓eww_t, ↓eww_f, ↓ewl_t, ↓ewl_f, ↓ez_t, ↓ez_f, ↓il_t, ↓il_f, il_t, il_f, ez_t, ez_f, if_true, if_false, upS_h, upS_o, upS_i, Int.reduceAdd, Int.reduceSub, Int.reduceMul, Int.reduceNeg, wI_id]
    · rw [if_neg (show ¬ isPl α k from fun z => c ⟨z.1.1, z.2 (by omega)⟩), if_neg c]
      simp (disch := omega) only [↓rdA_t, ↓wrA_t, ↓ixA_t, ↓wrF_d, ↓bd2_s, ↓bd1_s, ↓bnd_d, ↓iww_t, ↓iww_f, ↓iwl_t, ↓iwl_f, ↓ilw_t, ↓ilw_f, ↓eww_t, ↓eww_f, ↓ewl_t, ↓ewl_f, ↓ez_t, ↓ez_f, ↓il_t, ↓il_f, il_t, il_f, ez_t, ez_f, if_true, if_false, upS_h, upS_o, upS_i, Int.reduceAdd, Int.reduceSub, Int.reduceMul, Int.reduceNeg, wI_id]
def rCh (α : St) (k j : Int) : Int := if isPl α k ∧ -1 ≤ j then (if α 0 1 = 0 then -3 else if (rnS α (-1) k).1 = 0 then -3 else if j = -1 then nCh α (-1) k else if j < nCh α (-1) k then uCh α (-1) k j else -5) else -10
def aCh (α : St) (k j : Int) : St := if isPl α k ∧ -1 ≤ j then (if α 0 1 = 0 then aR α 4 else if (rnS α (-1) k).1 = 0 then aR α 4 else α) else aR α 3
theorem xc_choice {σ α : St} {k j : Int} (h : IC σ α) (hw : WF α) (hk : inR k) (hj : inR j) : oC (f_X9_choice σ k j) σ α (rCh α k j) (aCh α k j) := by
  have hs := h.2.1.1
  have w1 := hw.2.1.1
  have w2 := hw.2.1.2.1
  have w3 := hw.1.2.1
  unfold f_X9_choice rCh aCh
  rw [c_isPl h.2.1 hw.2.1 hk]
  unfold inR at hk hj
  have bad : oC (wrF σ 0 9 ((σ 0 9) + 1) fun σ3 => some ((-10), σ3)) σ α (-10) (aR α 3) := ⟨_, rfl, IC_aR 3 (by omega) h, fun o ho => upS_of (by omega)⟩
  by_cases c : isPl α k
  · rw [if_pos c]
    by_cases c1 : -1 ≤ j
    · rw [if_pos (⟨c, c1⟩ : isPl α k ∧ -1 ≤ j), if_pos (⟨c, c1⟩ : isPl α k ∧ -1 ≤ j)]
      by_cases c2 : α 0 1 = 0
      · rw [if_pos c2, if_pos c2]
        simp (disch := omega) only [↓rdA_t, ↓wrA_t, ↓ixA_t, ↓wrF_d, ↓bd2_s, ↓bd1_s, ↓bnd_d, ↓iww_t, ↓iww_f, ↓iwl_t, ↓iwl_f, ↓ilw_t, ↓ilw_f, ↓eww_t, ↓eww_f, ↓ewl_t, ↓ewl_f, ↓ez_t, ↓ez_f, ↓il_t, ↓il_f, il_t, il_f, ez_t, ez_f, if_true, if_false, upS_h, upS_o, upS_i, Int.reduceAdd, Int.reduceSub, Int.reduceMul, Int.reduceNeg, wI_id]
        exact oC_id (oC_no h)
      · rw [if_neg c2, if_neg c2]
        obtain ⟨τ, g1, g2, g3, g4⟩ := c_choose1 h hw c.1.1 (c.2 (by omega))
        have r := rnS_r (a := -1) hw c.1.1 (c.2 (by omega))
        unfold f_X1_isMissing
        by_cases c3 : (rnS α (-1) k).1 = 0
        · rw [if_pos c3, if_pos c3]
          have e := g2.2.1 c3
          simp (disch := omega) only [↓rdA_t, ↓wrA_t, ↓ixA_t, ↓wrF_d, ↓bd2_s, ↓bd1_s, ↓bnd_d, ↓iww_t, ↓iww_f, ↓iwl_t, ↓iwl_f, ↓ilw_t, ↓ilw_f, ↓eww_t, ↓eww_f, ↓ewl_t, ↓ewl_f, ↓ez_t, ↓ez_f, ↓il_t, ↓il_f, il_t, il_f, ez_t, ez_f, if_true, if_false, upS_h, upS_o, upS_i, Int.reduceAdd, Int.reduceSub, Int.reduceMul, Int.reduceNeg, wI_id, g1, e]
          exact oC_tr g4 (oC_id (oC_no g3))
        · rw [if_neg c3, if_neg c3]
          obtain ⟨e1, e2, e3⟩ := g2.1 (by omega)
          have r2 := nCh_r hw c.1.1 (c.2 (by omega)) (show (rnS α (-1) k).1 = 1 by omega)
          by_cases c4 : j = -1
          · simp (disch := omega) only [↓rdA_t, ↓wrA_t, ↓ixA_t, ↓wrF_d, ↓bd2_s, ↓bd1_s, ↓bnd_d, ↓iww_t, ↓iww_f, ↓iwl_t, ↓iwl_f, ↓ilw_t, ↓ilw_f, ↓eww_t, ↓eww_f, ↓ewl_t, ↓ewl_f, ↓ez_t, ↓ez_f, ↓il_t, ↓il_f, il_t, il_f, ez_t, ez_f, if_true, if_false, upS_h, upS_o, upS_i, Int.reduceAdd, Int.reduceSub, Int.reduceMul, Int.reduceNeg, wI_id, g1, e1, e2]
            exact ⟨τ, rfl, g3, g4⟩
          · by_cases c5 : j < nCh α (-1) k
            · simp (disch := omega) only [↓rdA_t, ↓wrA_t, ↓ixA_t, ↓wrF_d, ↓bd2_s, ↓bd1_s, ↓bnd_d, ↓iww_t, ↓iww_f, ↓iwl_t, ↓iwl_f, ↓ilw_t, ↓ilw_f, ↓eww_t, ↓eww_f, ↓ewl_t, ↓ewl_f, ↓ez_t, ↓ez_f, ↓il_t, ↓il_f, il_t, il_f, ez_t, ez_f, if_true, if_false, upS_h, upS_o, upS_i, Int.reduceAdd, Int.reduceSub, Int.reduceMul, Int.reduceNeg, wI_id, g1, e1, e2, e3 j (by omega) c5]
              exact ⟨τ, rfl, g3, g4⟩
            · simp (disch := omega) only [↓rdA_t, ↓wrA_t, ↓ixA_t, ↓wrF_d, ↓bd2_s, ↓bd1_s, ↓bnd_d, ↓iww_t, ↓iww_f, ↓iwl_t, ↓iwl_f, ↓ilw_t, ↓ilw_f, ↓eww_t, ↓eww_f, ↓ewl_t, ↓ewl_f, ↓ez_t, ↓ez_f, ↓il_t, ↓il_f, il_t, il_f, ez_t, ez_f, if_true, if_false, upS_h, upS_o, upS_i, Int.reduceAdd, Int.reduceSub, Int.reduceMul, Int.reduceNeg, wI_id, g1, e1, e2]
              exact ⟨τ, rfl, g3, g4⟩
    · rw [if_neg (show ¬ (isPl α k ∧ -1 ≤ j) from fun z => c1 z.2), if_neg (show ¬ (isPl α k ∧ -1 ≤ j) from fun z => c1 z.2)]
      rw [if_neg (by omega), iwl_t (by omega)]
      exact bad
  · rw [if_neg c, if_neg (show ¬ (isPl α k ∧ -1 ≤ j) from fun z => c z.1), if_neg (show ¬ (isPl α k ∧ -1 ≤ j) from fun z => c z.1), if_pos rfl]
    exact bad
theorem xm_choice {σ α : St} {k j : Int} (h : IM σ α) (hw : WF α) (hk : inR k) (hj : inR j) : oM (f_X10_choice σ k j) σ α (rCh α k j) (aCh α k j) := by
  have hs := h.2.1.1
  have w1 := hw.2.1.1
  have w2 := hw.2.1.2.1
  have w3 := hw.1.2.1
  unfold inR at hk hj
  have main : isPl α k → oM (jn_X10_choice_27 σ k j) σ α (rCh α k j) (aCh α k j) := by
    intro c
    unfold jn_X10_choice_27 rCh aCh
    by_cases c1 : -1 ≤ j
    · rw [if_pos (⟨c, c1⟩ : isPl α k ∧ -1 ≤ j), if_pos (⟨c, c1⟩ : isPl α k ∧ -1 ≤ j)]
      by_cases c2 : α 0 1 = 0
      · rw [if_pos c2, if_pos c2]
        simp (disch := omega) only [↓rdA_t, ↓wrA_t, ↓ixA_t, ↓wrF_d, ↓bd2_s, ↓bd1_s, ↓bnd_d, ↓iww_t, ↓iww_f, ↓iwl_t, ↓iwl_f, ↓ilw_t, ↓ilw_f, ↓eww_t, ↓eww_f, ↓ewl_t, ↓ewl_f, ↓ez_t, ↓ez_f, ↓il_t, ↓il_f, il_t, il_f, ez_t, ez_f, if_true, if_false, upS_h, upS_o, upS_i, Int.reduceAdd, Int.reduceSub, Int.reduceMul, Int.reduceNeg, wI_id]
        exact oM_id (oM_no h)
      · rw [if_neg c2, if_neg c2]
        obtain ⟨τ, g1, g2, g3, g4⟩ := m_choose (JM_of h) hw h.2.2.1.2.2.2.2.2 (by omega) c.1.1 (c.2 (by omega))
        have r := rnS_r (a := -1) hw c.1.1 (c.2 (by omega))
        have fr : ∀ o, o < 118 → τ o = σ o := fun o ho => g4.1 o (by omega) (by omega) (by omega)
        by_cases c3 : (rnS α (-1) k).1 = 0
        · rw [if_pos c3, if_pos c3]
          simp (disch := omega) only [↓rdA_t, ↓wrA_t, ↓ixA_t, ↓wrF_d, ↓bd2_s, ↓bd1_s, ↓bnd_d, ↓iww_t, ↓iww_f, ↓iwl_t, ↓iwl_f, ↓ilw_t, ↓ilw_f, ↓eww_t, ↓eww_f, ↓ewl_t, ↓ewl_f, ↓ez_t, ↓ez_f, ↓il_t, ↓il_f, il_t, il_f, ez_t, ez_f, if_true, if_false, upS_h, upS_o, upS_i, Int.reduceAdd, Int.reduceSub, Int.reduceMul, Int.reduceNeg, wI_id, g1]
          exact oM_tr fr (oM_id (oM_no (mFr_I g4 h)))
        · rw [if_neg c3, if_neg c3]
          obtain ⟨e1, e2⟩ := (g2 (by omega)).1
          have r2 := nCh_r hw c.1.1 (c.2 (by omega)) (show (rnS α (-1) k).1 = 1 by omega)
          by_cases c4 : j = -1
          · simp (disch := omega) only [↓rdA_t, ↓wrA_t, ↓ixA_t, ↓wrF_d, ↓bd2_s, ↓bd1_s, ↓bnd_d, ↓iww_t, ↓iww_f, ↓iwl_t, ↓iwl_f, ↓ilw_t, ↓ilw_f, ↓eww_t, ↓eww_f, ↓ewl_t, ↓ewl_f, ↓ez_t, ↓ez_f, ↓il_t, ↓il_f, il_t, il_f, ez_t, ez_f, if_true, if_false, upS_h, upS_o, upS_i, Int.reduceAdd, Int.reduceSub, Int.reduceMul, Int.reduceNeg, wI_id, g1, e1]
            exact ⟨τ, rfl, mFr_I g4 h, fr⟩
          · by_cases c5 : j < nCh α (-1) k
            · simp (disch := omega) only [↓rdA_t, ↓wrA_t, ↓ixA_t, ↓wrF_d, ↓bd2_s, ↓bd1_s, ↓bnd_d, ↓iww_t, ↓iww_f, ↓iwl_t, ↓iwl_f, ↓ilw_t, ↓ilw_f, ↓eww_t, ↓eww_f, ↓ewl_t, ↓ewl_f, ↓ez_t, ↓ez_f, ↓il_t, ↓il_f, il_t, il_f, ez_t, ez_f, if_true, if_false, upS_h, upS_o, upS_i, Int.reduceAdd, Int.reduceSub, Int.reduceMul, Int.reduceNeg, wI_id, g1, e1, e2 j (by omega) c5]
              exact ⟨τ, rfl, mFr_I g4 h, fr⟩
            · simp (disch := omega) only [↓rdA_t, ↓wrA_t, ↓ixA_t, ↓wrF_d, ↓bd2_s, ↓bd1_s, ↓bnd_d, ↓iww_t, ↓iww_f, ↓iwl_t, ↓iwl_f, ↓ilw_t, ↓ilw_f, ↓eww_t, ↓eww_f, ↓ewl_t, ↓ewl_f, ↓ez_t, ↓ez_f, ↓il_t, ↓il_f, il_t, il_f, ez_t, ez_f, if_true, if_false, upS_h, upS_o, upS_i, Int.reduceAdd, Int.reduceSub, Int.reduceMul, Int.reduceNeg, wI_id, g1, e1]
              exact ⟨τ, rfl, mFr_I g4 h, fr⟩
    · rw [if_neg (show ¬ (isPl α k ∧ -1 ≤ j) from fun z => c1 z.2), if_neg (show ¬ (isPl α k ∧ -1 ≤ j) from fun z => c1 z.2), iwl_t (by omega)]
      exact oM_id (oM_bad (-10) h)
  unfold f_X10_choice
  by_cases c : isPl α k
  · by_cases c0 : 0 < α 0 1
    · have := c.2 c0
      simp (disch := omega) only [↓rdA_t, ↓wrA_t, ↓ixA_t, ↓wrF_d, ↓bd2_s, ↓bd1_s, ↓bnd_d, ↓iww_t, ↓iww_f, ↓iwl_t, ↓iwl_f, ↓ilw_t, ↓ilw_f, ↓eww_t, ↓eww_f, ↓ewl_t, ↓ewl_f, ↓ez_t, ↓ez_f, ↓il_t, ↓il_f, il_t, il_f, ez_t, ez_f, if_true, if_false, upS_h, upS_o, upS_i, Int.reduceAdd, Int.reduceSub, Int.reduceMul, Int.reduceNeg, wI_id, in_t]
      exact main c
    · simp (disch := omega) only [↓rdA_t, ↓wrA_t, ↓ixA_t, ↓wrF_d, ↓bd2_s, ↓bd1_s, ↓bnd_d, ↓iww_t, ↓iww_f, ↓iwl_t, ↓iwl_f, ↓ilw_t, ↓ilw_f, ↓eww_t, ↓eww_f, ↓ewl_t, ↓ewl_f, ↓ez_t, ↓ez_f, ↓il_t, ↓il_f, il_t, il_f, ez_t, ez_f, if_true, if_false, upS_h, upS_o, upS_i, Int.reduceAdd, Int.reduceSub, Int.reduceMul, Int.reduceNeg, wI_id, in_t]
      exact main c
  · unfold rCh aCh
    rw [if_neg (show ¬ (isPl α k ∧ -1 ≤ j) from fun z => c z.1), if_neg (show ¬ (isPl α k ∧ -1 ≤ j) from fun z => c z.1)]
    by_cases c0 : 0 ≤ k ∧ k ≤ 7
    · have c2 : 0 < α 0 1 ∧ ¬ k < α 0 1 := by
        constructor
        · by_cases z : 0 < α 0 1
          · exact z
          · exact absurd ⟨c0, fun y => absurd y z⟩ c
        · exact fun z => c ⟨c0, fun _ => z⟩
      simp (disch := omega) only [↓rdA_t, ↓wrA_t, ↓ixA_t, ↓wrF_d, ↓bd2_s, ↓bd1_s, ↓bnd_d, ↓iww_t, ↓iww_f, ↓iwl_t, ↓iwl_f, ↓ilw_t, ↓ilw_f, ↓eww_t, ↓eww_f, ↓ewl_t, ↓ewl_f, ↓ez_t, ↓ez_f, ↓il_t, ↓il_f, il_t, il_f, ez_t, ez_f, if_true, if_false, upS_h, upS_o, upS_i, Int.reduceAdd, Int.reduceSub, Int.reduceMul, Int.reduceNeg, wI_id, in_t]
      exact oM_id (oM_bad (-10) h)
    · simp (disch := omega) only [↓rdA_t, ↓wrA_t, ↓ixA_t, ↓wrF_d, ↓bd2_s, ↓bd1_s, ↓bnd_d, ↓iww_t, ↓iww_f, ↓iwl_t, ↓iwl_f, ↓ilw_t, ↓ilw_f, ↓eww_t, ↓eww_f, ↓ewl_t, ↓ewl_f, ↓ez_t, ↓ez_f, ↓il_t, ↓il_f, il_t, il_f, ez_t, ez_f, if_true, if_false, upS_h, upS_o, upS_i, Int.reduceAdd, Int.reduceSub, Int.reduceMul, Int.reduceNeg, wI_id, in_f]
      exact oM_id (oM_bad (-10) h)
theorem wf_choice {α : St} {k j : Int} (hw : WF α) : WF (aCh α k j) := by
  unfold aCh
  by_cases c : isPl α k ∧ -1 ≤ j
  · rw [if_pos c]
    by_cases c1 : α 0 1 = 0
    · rw [if_pos c1]; exact WF_aR 4 (by omega) hw
    · rw [if_neg c1]
      by_cases c2 : (rnS α (-1) k).1 = 0
      · rw [if_pos c2]; exact WF_aR 4 (by omega) hw
      · rw [if_neg c2]; exact hw
  · rw [if_neg c]; exact WF_aR 3 (by omega) hw
/-! ===== choices for all targets ===== -/
def allF (α : St) (a : Int) : Prop := ∀ k, 0 ≤ k → k < α 0 1 → (rnS α a k).1 = 1
theorem c_all_g {α : St} {a : Int} (kx : St → Option (Int × St)) (hw : WF α) (ha : -1 ≤ a ∧ a < 40) : ∀ (m : Nat) (σ : St) (x : Int) (n : Nat), IC σ α → cL σ α → x + m = α 0 1 → 0 ≤ x → (∀ k, 0 ≤ k → k < x → (rnS α a k).1 = 1 ∧ cCh σ α a k) → m < n → (allF α a ∧ ∃ τ, lp_X2_chooseAll_6 a kx n σ x = kx τ ∧ IC τ α ∧ (∀ k, 0 ≤ k → k < α 0 1 → cCh τ α a k) ∧ ∀ o, (o < 38 ∨ 53 < o) → τ o = σ o) ∨ (¬ allF α a ∧ ∃ τ, lp_X2_chooseAll_6 a kx n σ x = some (0, τ) ∧ IC τ α ∧ ∀ o, (o < 38 ∨ 53 < o) → τ o = σ o) := by
  intro m
  have w2 := hw.2.1.2.1
  induction m with
  | zero =>
    intro σ x n h hl h1 h2 h3 hn
    obtain ⟨n, rfl⟩ : ∃ k, n = k + 1 := ⟨n - 1, by omega⟩
    have hs := h.2.1.1
    left
    rw [lp_X2_chooseAll_6]
    exact ⟨fun k k1 k2 => (h3 k k1 (by omega)).1, σ, by simp (disch := omega) only [↓rdA_t, ↓wrA_t, ↓ixA_t, ↓wrF_d, ↓bd2_s, ↓bd1_s, ↓bnd_d, ↓iww_t, ↓iww_f, ↓iwl_t, ↓iwl_f, ↓ilw_t, ↓ilw_f, ↓eww_t, ↓eww_f, ↓ewl_t, ↓ewl_f, ↓ez_t, ↓ez_f, ↓il_t, ↓il_f, il_t, il_f, ez_t, ez_f, if_true, if_false, upS_h, upS_o, upS_i, Int.reduceAdd, Int.reduceSub, Int.reduceMul, Int.reduceNeg, wI_id], h, fun k k1 k2 => (h3 k k1 (by omega)).2, fun _ _ => rfl⟩
  | succ m ih =>
    intro σ x n h hl h1 h2 h3 hn
    obtain ⟨n, rfl⟩ : ∃ k, n = k + 1 := ⟨n - 1, by omega⟩
    have hs := h.2.1.1
    obtain ⟨τ, g1, g2, g3⟩ := c_choose h hl hw h2 (show x < α 0 1 by omega) ha
    have hI : IC τ α := IC_scr (fun o ho i _ => by rw [g3 o (by omega) (by omega)]) h
    have hL : cL τ α := fun u u1 u2 => by rw [g3 36 (by omega) (by omega)]; exact hl u u1 u2
    have r := rnS_r (a := a) hw h2 (show x < α 0 1 by omega)
    rw [lp_X2_chooseAll_6]
    unfold f_X1_isMissing
    by_cases c : (rnS α a x).1 = 1
    · obtain ⟨e1, e2, e3⟩ := g2.1 c
      have g := ih τ (x + 1) n hI hL (by omega) (by omega) (fun k k1 k2 => by
        by_cases c2 : k = x
        · subst c2; exact ⟨c, g2⟩
        · refine ⟨(h3 k k1 (by omega)).1, ?_⟩
          have q := (h3 k k1 (by omega)).2
          unfold cCh at q ⊢
          rw [g3 (38 + 2 * k) (by omega) (by omega), g3 (38 + 2 * k + 1) (by omega) (by omega)]
          exact q) (by omega)
      have ev : (if wI x < wI (σ 10 3) then bd2 (f_X2_chooseFor σ x a) fun v4 σ5 => ixA 8 x <| if (if wI (σ5 (38 + 2 * x) 2) = (-1) then (1 : Int) else 0) = 0 then lp_X2_chooseAll_6 a kx n σ5 (x + 1) else some (0, σ5) else kx σ) = lp_X2_chooseAll_6 a kx n τ (x + 1) := by
        simp (disch := omega) only [↓rdA_t, ↓wrA_t, ↓ixA_t, ↓wrF_d, ↓bd2_s, ↓bd1_s, ↓bnd_d, ↓iww_t, ↓iww_f, ↓iwl_t, ↓iwl_f, ↓ilw_t, ↓ilw_f, ↓eww_t, ↓eww_f, ↓ewl_t, ↓ewl_f, ↓ez_t, ↓ez_f, ↓il_t, ↓il_f, il_t, il_f, ez_t, ez_f, if_true, if_false, upS_h, upS_o, upS_i, Int.reduceAdd, Int.reduceSub, Int.reduceMul, Int.reduceNeg, wI_id, g1, e2]
      rw [ev]
      rcases g with ⟨b1, ρ, b2, b3, b4, b5⟩ | ⟨b1, ρ, b2, b3, b4⟩
      · left
        exact ⟨b1, ρ, b2, b3, b4, fun o ho => by rw [b5 o ho, g3 o (by omega) (by omega)]⟩
      · right
        exact ⟨b1, ρ, b2, b3, fun o ho => by rw [b4 o ho, g3 o (by omega) (by omega)]⟩
    · right
      have e := g2.2.1 (by omega)
      refine ⟨fun z => c (z x h2 (by omega)), τ, ?_, hI, fun o ho => by rw [g3 o (by omega) (by omega)]⟩
      simp (disch := omega) only [↓rdA_t, ↓wrA_t, ↓ixA_t, ↓wrF_d, ↓bd2_s, ↓bd1_s, ↓bnd_d, ↓iww_t, ↓iww_f, ↓iwl_t, ↓iwl_f, ↓ilw_t, ↓ilw_f, ↓eww_t, ↓eww_f, ↓ewl_t, ↓ewl_f, ↓ez_t, ↓ez_f, ↓il_t, ↓il_f, il_t, il_f, ez_t, ez_f, if_true, if_false, upS_h, upS_o, upS_i, Int.reduceAdd, Int.reduceSub, Int.reduceMul, Int.reduceNeg, wI_id, g1, e]
theorem c_all {σ α : St} {a : Int} (h : IC σ α) (hw : WF α) (ha : -1 ≤ a ∧ a < 40) : ((0 < α 0 1 ∧ allF α a) ∧ ∃ τ, f_X2_chooseAll σ a = some (1, τ) ∧ IC τ α ∧ (∀ k, 0 ≤ k → k < α 0 1 → cCh τ α a k) ∧ ∀ o, (o < 36 ∨ 53 < o) → τ o = σ o) ∨ (¬ (0 < α 0 1 ∧ allF α a) ∧ ∃ τ, f_X2_chooseAll σ a = some (0, τ) ∧ IC τ α ∧ ∀ o, (o < 36 ∨ 53 < o) → τ o = σ o) := by
  have w1 := hw.2.1.1
  have w2 := hw.2.1.2.1
  obtain ⟨τ, f1, f2, f3⟩ := c_leaves h hw
  have hI : IC τ α := IC_scr (fun o ho i _ => by rw [f3 o (by omega)]) h
  have g := c_all_g (α := α) (a := a) (fun σ9 => some ((if 0 < wI (σ9 10 3) then 1 else 0), σ9)) hw ha (α 0 1).toNat τ 0 1000 hI f2 (by omega) (by omega) (fun k k1 k2 => by omega) (by omega)
  unfold f_X2_chooseAll
  rw [f1, bd2_s]
  rcases g with ⟨b1, ρ, b2, b3, b4, b5⟩ | ⟨b1, ρ, b2, b3, b4⟩
  · have hs := b3.2.1.1
    rw [b2]
    by_cases c : 0 < α 0 1
    · left
      refine ⟨⟨c, b1⟩, ρ, by simp (disch := omega) only [↓rdA_t, ↓wrA_t, ↓ixA_t, ↓wrF_d, ↓bd2_s, ↓bd1_s, ↓bnd_d, ↓iww_t, ↓iww_f, ↓iwl_t, ↓iwl_f, ↓ilw_t, ↓ilw_f, ↓eww_t, ↓eww_f, ↓ewl_t, ↓ewl_f, ↓ez_t, ↓ez_f, ↓il_t, ↓il_f, il_t, il_f, ez_t, ez_f, if_true, if_false, upS_h, upS_o, upS_i, Int.reduceAdd, Int.reduceSub, Int.reduceMul, Int.reduceNeg, wI_id], b3, b4, fun o ho => by rw [b5 o (by omega), f3 o (by omega)]⟩
    · right
      refine ⟨fun z => c z.1, ρ, by simp (disch := omega) only [↓rdA_t, ↓wrA_t, ↓ixA_t, ↓wrF_d, ↓bd2_s, ↓bd1_s, ↓bnd_d, ↓iww_t, ↓iww_f, ↓iwl_t, ↓iwl_f, ↓ilw_t, ↓ilw_f, ↓eww_t, ↓eww_f, ↓ewl_t, ↓ewl_f, ↓ez_t, ↓ez_f, ↓il_t, ↓il_f, il_t, il_f, ez_t, ez_f, if_true, if_false, upS_h, upS_o, upS_i, Int.reduceAdd, Int.reduceSub, Int.reduceMul, Int.reduceNeg, wI_id], b3, fun o ho => by rw [b5 o (by omega), f3 o (by omega)]⟩
  · right
    exact ⟨fun z => b1 z.2, ρ, b2, b3, fun o ho => by rw [b4 o (by omega), f3 o (by omega)]⟩
/-- the frame of the reference's searches -/
def mSc (σ τ : St) : Prop := (∀ o, (o < 118 ∨ (118 < o ∧ o < 135)) → τ o = σ o) ∧ ∀ i, ¬ i = 28 → ¬ i = 29 → (i < 34 ∨ 37 < i) → τ 118 i = σ 118 i
theorem mSc_J {σ τ α : St} (h : mSc σ τ) (hJ : JM σ α) : JM τ α := JM_scr (fun i _ => h.2 i (by omega) (by omega) (by omega)) (fun o _ _ => h.1 o (by omega)) hJ
theorem mSc_t {σ τ ρ : St} (h1 : mSc σ τ) (h2 : mSc τ ρ) : mSc σ ρ := ⟨fun o a => (h2.1 o a).trans (h1.1 o a), fun i a b c => (h2.2 i a b c).trans (h1.2 i a b c)⟩
theorem mSc_I {σ τ α : St} (h : mSc σ τ) (hI : IM σ α) : IM τ α := IM_scr (fun i hi => h.2 i (by unfold mF at hi; omega) (by unfold mF at hi; omega) (by unfold mF at hi; omega)) (fun o _ _ => h.1 o (by omega)) hI
theorem mFr_S {σ τ : St} {k : Int} (h : mFr σ τ k) : mSc σ τ := ⟨fun o _ => h.1 o (by omega) (by omega) (by omega), fun i a b _ => h.2.1 i a b⟩
theorem m_all_g {α : St} {a kd : Int} (kx : St → Int → Option (Int × St)) (hw : WF α) (ha : -1 ≤ a ∧ a < 40) : ∀ (m : Nat) (σ : St) (x : Int) (n : Nat), JM σ α → σ 118 27 = a → x + m = α 0 1 → 0 ≤ x → (∀ k, 0 ≤ k → k < x → (rnS α a k).1 = 1 ∧ mCh σ α a k) → m < n → (allF α a ∧ ∃ τ, lp_X10_chains_15 kd kx n σ 1 x = kx τ 1 ∧ (∀ k, 0 ≤ k → k < α 0 1 → mCh τ α a k) ∧ mSc σ τ) ∨ (¬ allF α a ∧ ∃ τ, lp_X10_chains_15 kd kx n σ 1 x = kx τ 0 ∧ mSc σ τ) := by
  intro m
  have w2 := hw.2.1.2.1
  induction m with
  | zero =>
    intro σ x n h hg h1 h2 h3 hn
    obtain ⟨n, rfl⟩ : ∃ k, n = k + 1 := ⟨n - 1, by omega⟩
    have hs := h.2.1.1
    left
    rw [lp_X10_chains_15]
    exact ⟨fun k k1 k2 => (h3 k k1 (by omega)).1, σ, by simp (disch := omega) only [↓rdA_t, ↓wrA_t, ↓ixA_t, ↓wrF_d, ↓bd2_s, ↓bd1_s, ↓bnd_d, ↓iww_t, ↓iww_f, ↓iwl_t, ↓iwl_f, ↓ilw_t, ↓ilw_f, ↓eww_t, ↓eww_f, ↓ewl_t, ↓ewl_f, ↓ez_t, ↓ez_f, ↓il_t, ↓il_f, il_t, il_f, ez_t, ez_f, if_true, if_false, upS_h, upS_o, upS_i, Int.reduceAdd, Int.reduceSub, Int.reduceMul, Int.reduceNeg, wI_id], fun k k1 k2 => (h3 k k1 (by omega)).2, fun _ _ => rfl, fun _ _ _ _ => rfl⟩
  | succ m ih =>
    intro σ x n h hg h1 h2 h3 hn
    obtain ⟨n, rfl⟩ : ∃ k, n = k + 1 := ⟨n - 1, by omega⟩
    have hs := h.2.1.1
    obtain ⟨τ, g1, g2, g3, g4⟩ := m_choose h hw hg ha h2 (show x < α 0 1 by omega)
    have hI := mFr_J g4 h
    have r := rnS_r (a := a) hw h2 (show x < α 0 1 by omega)
    rw [lp_X10_chains_15]
    by_cases c : (rnS α a x).1 = 1
    · obtain ⟨e1, e2⟩ := g2 c
      have g := ih τ (x + 1) n hI (by rw [g4.2.1 27 (by omega) (by omega)]; exact hg) (by omega) (by omega) (fun k k1 k2 => by
        by_cases c2 : k = x
        · subst c2; exact ⟨c, e1⟩
        · refine ⟨(h3 k k1 (by omega)).1, ?_⟩
          have q := (h3 k k1 (by omega)).2
          have r2 := nCh_r hw k1 (show k < α 0 1 by omega) (h3 k k1 (by omega)).1
          have w3 := hw.1.2.1
          refine ⟨by rw [g4.2.2.2 k c2]; exact q.1, fun i i1 i2 => ?_⟩
          rw [g4.2.2.1 (40 * k + i) (by omega)]
          exact q.2 i i1 i2) (by omega)
      have ev : (if wI x < wI (σ 118 3) then if wI 1 = 0 then kx σ 1 else bd2 (f_X10_chooses σ x) fun v5 σ6 => lp_X10_chains_15 kd kx n σ6 v5 (x + 1) else kx σ 1) = lp_X10_chains_15 kd kx n τ 1 (x + 1) := by
        simp (disch := omega) only [↓rdA_t, ↓wrA_t, ↓ixA_t, ↓wrF_d, ↓bd2_s, ↓bd1_s, ↓bnd_d, ↓iww_t, ↓iww_f, ↓iwl_t, ↓iwl_f, ↓ilw_t, ↓ilw_f, ↓eww_t, ↓eww_f, ↓ewl_t, ↓ewl_f, ↓ez_t, ↓ez_f, ↓il_t, ↓il_f, il_t, il_f, ez_t, ez_f, if_true, if_false, upS_h, upS_o, upS_i, Int.reduceAdd, Int.reduceSub, Int.reduceMul, Int.reduceNeg, wI_id, g1, c]
      rw [ev]
      rcases g with ⟨b1, ρ, b2, b3, b4⟩ | ⟨b1, ρ, b2, b3⟩
      · left
        exact ⟨b1, ρ, b2, b3, mSc_t (mFr_S g4) b4⟩
      · right
        exact ⟨b1, ρ, b2, mSc_t (mFr_S g4) b3⟩
    · right
      have c0 : (rnS α a x).1 = 0 := by omega
      have ev : lp_X10_chains_15 kd kx n τ 0 (x + 1) = kx τ 0 := by
        obtain ⟨n, rfl⟩ : ∃ k, n = k + 1 := ⟨n - 1, by omega⟩
        have hs2 := hI.2.1.1
        rw [lp_X10_chains_15]
        by_cases c5 : x + 1 < α 0 1
        · simp (disch := omega) only [↓rdA_t, ↓wrA_t, ↓ixA_t, ↓wrF_d, ↓bd2_s, ↓bd1_s, ↓bnd_d, ↓iww_t, ↓iww_f, ↓iwl_t, ↓iwl_f, ↓ilw_t, ↓ilw_f, ↓eww_t, ↓eww_f, ↓ewl_t, ↓ewl_f, ↓ez_t, ↓ez_f, ↓il_t, ↓il_f, il_t, il_f, ez_t, ez_f, if_true, if_false, upS_h, upS_o, upS_i, Int.reduceAdd, Int.reduceSub, Int.reduceMul, Int.reduceNeg, wI_id]
        · simp (disch := omega) only [↓rdA_t, ↓wrA_t, ↓ixA_t, ↓wrF_d, ↓bd2_s, ↓bd1_s, ↓bnd_d, ↓iww_t, ↓iww_f, ↓iwl_t, ↓iwl_f, ↓ilw_t, ↓ilw_f, ↓eww_t, ↓eww_f, ↓ewl_t, ↓ewl_f, ↓ez_t, ↓ez_f, ↓il_t, ↓il_f, il_t, il_f, ez_t, ez_f, if_true, if_false, upS_h, upS_o, upS_i, Int.reduceAdd, Int.reduceSub, Int.reduceMul, Int.reduceNeg, wI_id]
      refine ⟨fun z => c (z x h2 (by omega)), τ, ?_, mFr_S g4⟩
      simp (disch := omega) only [↓rdA_t, ↓wrA_t, ↓ixA_t, ↓wrF_d, ↓bd2_s, ↓bd1_s, ↓bnd_d, ↓iww_t, ↓iww_f, ↓iwl_t, ↓iwl_f, ↓ilw_t, ↓ilw_f, ↓eww_t, ↓eww_f, ↓ewl_t, ↓ewl_f, ↓ez_t, ↓ez_f, ↓il_t, ↓il_f, il_t, il_f, ez_t, ez_f, if_true, if_false, upS_h, upS_o, upS_i, Int.reduceAdd, Int.reduceSub, Int.reduceMul, Int.reduceNeg, wI_id, g1, c0, ev]
end
section
/-! ===== tallies of chains ===== -/
theorem uv_40 {o : Int} (h : 69 < o ∧ o < 118) : uvLn o = 40 := by
  unfold uvLn
  rw [if_neg (by omega), if_neg (by omega), if_neg (by omega), if_neg (by omega), if_neg (by omega), if_neg (by omega), if_neg (by omega), if_neg (by omega), if_neg (by omega), if_neg (by omega), if_neg (by omega), if_neg (by omega), if_neg (by omega), if_pos (by omega)]
theorem uv_1 {o : Int} (h : 56 < o ∧ o < 69) : uvLn o = 1 := by
  unfold uvLn
  rw [if_neg (by omega), if_neg (by omega), if_neg (by omega), if_neg (by omega), if_neg (by omega), if_neg (by omega), if_neg (by omega), if_neg (by omega), if_neg (by omega), if_neg (by omega), if_neg (by omega), if_pos (by omega)]
def oB (b v : Int) : Int := if b = -1 then v else if v < b then v else b
def oS (b s v : Int) : Int := if b = -1 then b else if v < b then b else if s = -1 then v else if v < s then v else s
def cap (y : Int) : Int := if 1000000000 < y then 1000000000 else y
def tB (b l q t : Int) : Int := if q = -1 then oB b (l + t) else oB (oB b (l + t)) (q + t)
def tS (b s l q t : Int) : Int := if q = -1 then oS b s (l + t) else oS (oB b (l + t)) (oS b s (l + t)) (q + t)
def tX (x m t : Int) : Int := if x < m + t then m + t else x
def tW (b w l v t : Int) : Int := if b = -1 then cap (0 + v) else if b < l + t then w else if l + t < b then cap (0 + v) else cap (w + v)
/-- least, second or -1, most, ways, over the first j -/
def fd (D : Int → Int → Int) (jt : Int → Int) : Nat → Int → Int
  | 0, w => if w = 3 then 0 else -1
  | j + 1, w => if w = 0 then tB (fd D jt j 0) (D 0 j) (D 1 j) (jt j) else if w = 1 then tS (fd D jt j 0) (fd D jt j 1) (D 0 j) (D 1 j) (jt j) else if w = 2 then tX (fd D jt j 2) (D 2 j) (jt j) else tW (fd D jt j 0) (fd D jt j 3) (D 0 j) (D 3 j) (jt j)
theorem fd_0 {D : Int → Int → Int} {jt : Int → Int} : fd D jt 0 0 = -1 ∧ fd D jt 0 1 = -1 ∧ fd D jt 0 2 = -1 ∧ fd D jt 0 3 = 0 := ⟨rfl, rfl, rfl, rfl⟩
theorem fd_s {D : Int → Int → Int} {jt : Int → Int} {j : Nat} : fd D jt (j + 1) 0 = tB (fd D jt j 0) (D 0 j) (D 1 j) (jt j) ∧ fd D jt (j + 1) 1 = tS (fd D jt j 0) (fd D jt j 1) (D 0 j) (D 1 j) (jt j) ∧ fd D jt (j + 1) 2 = tX (fd D jt j 2) (D 2 j) (jt j) ∧ fd D jt (j + 1) 3 = tW (fd D jt j 0) (fd D jt j 3) (D 0 j) (D 3 j) (jt j) := ⟨rfl, rfl, rfl, rfl⟩
/-- the first that is cheapest -/
def fv (D : Int → Int → Int) (jt : Int → Int) : Nat → Int
  | 0 => 0
  | j + 1 => if fd D jt j 0 = -1 ∨ D 0 j + jt j < fd D jt j 0 then (j : Int) else fv D jt j
def okE (B l q m v : Int) : Prop := (0 ≤ l ∧ l ≤ B) ∧ (q = -1 ∨ (l ≤ q ∧ q ≤ B)) ∧ (0 ≤ m ∧ m ≤ B) ∧ (0 ≤ v ∧ v ≤ 1000000000)
def okF (B b s x w : Int) : Prop := (b = -1 ∧ s = -1 ∧ x = -1 ∧ w = 0) ∨ okE B b s x w
theorem cap_e {y : Int} (h : 0 ≤ y) : 0 ≤ cap y ∧ cap y ≤ 1000000000 ∧ (y ≤ 1000000000 → cap y = y) := by
  unfold cap
  by_cases c : 1000000000 < y
  · rw [if_pos c]; omega
  · rw [if_neg c]; omega
/-- one step of the fold, told without the detours -/
theorem t_e {B b s x w l q m v t : Int} (hF : okF B b s x w) (hE : okE B l q m v) (ht : 0 ≤ t) : (tB b l q t = if b = -1 ∨ l + t < b then l + t else b) ∧ (tS b s l q t = if b = -1 then (if q = -1 then -1 else q + t) else if l + t < b then (if q = -1 then b else if q + t < b then q + t else b) else if s = -1 then l + t else if l + t < s then l + t else s) ∧ tW b w l v t = (if b = -1 then v else if b < l + t then w else if l + t < b then v else cap (w + v)) := by
  obtain ⟨e1, e2, e3, e4⟩ := hE
  have c1 : cap (0 + v) = v := by have := cap_e (y := 0 + v) (by omega); omega
  have hW : tW b w l v t = (if b = -1 then v else if b < l + t then w else if l + t < b then v else cap (w + v)) := by
    unfold tW; rw [c1]
  refine ⟨?_, ?_, hW⟩
  · unfold tB oB
    by_cases cq : q = -1
    · rw [if_pos cq]
      by_cases cb : b = -1
      · rw [if_pos cb, if_pos (Or.inl cb)]
      · rw [if_neg cb]
        by_cases cl : l + t < b
        · rw [if_pos cl, if_pos (Or.inr cl)]
        · rw [if_neg cl, if_neg (by omega)]
    · rw [if_neg cq]
      by_cases cb : b = -1
      · rw [if_pos cb, if_pos (Or.inl cb), if_neg (by omega), if_neg (by omega)]
      · rw [if_neg cb]
        rcases hF with hF | ⟨f1, f2, f3, f4⟩
        · omega
        · by_cases cl : l + t < b
          · rw [if_pos cl, if_pos (Or.inr cl), if_neg (by omega), if_neg (by omega)]
          · rw [if_neg cl, if_neg (show ¬ (b = -1 ∨ l + t < b) by omega), if_neg cb, if_neg (by omega)]
  · unfold tS oS oB
    by_cases cq : q = -1
    · rw [if_pos cq, if_pos cq, if_pos cq]
      by_cases cb : b = -1
      · rw [if_pos cb, if_pos cb]; omega
      · rw [if_neg cb, if_neg cb]
    · rw [if_neg cq, if_neg cq, if_neg cq]
      by_cases cb : b = -1
      · rw [if_pos cb, if_pos cb, if_pos cb, if_neg (show ¬ l + t = -1 by omega), if_neg (show ¬ q + t < l + t by omega), if_pos cb]
      · rw [if_neg cb, if_neg cb, if_neg cb]
        rcases hF with hF | ⟨f1, f2, f3, f4⟩
        · omega
        · by_cases cl : l + t < b
          · rw [if_pos cl, if_pos cl, if_pos cl, if_neg (show ¬ l + t = -1 by omega), if_neg (show ¬ q + t < l + t by omega), if_neg cb]
          · rw [if_neg cl, if_neg cl, if_neg cl, if_neg cb, if_neg (show ¬ q + t < b by omega)]
            by_cases cs : s = -1
            · rw [if_pos cs, if_neg (show ¬ l + t = -1 by omega), if_neg (show ¬ q + t < l + t by omega)]
            · rw [if_neg cs]
              by_cases c2 : l + t < s
              · rw [if_pos c2, if_neg (show ¬ l + t = -1 by omega), if_neg (show ¬ q + t < l + t by omega)]
              · rw [if_neg c2, if_neg cs, if_neg (show ¬ q + t < s by omega)]
theorem t_ok {B b s x w l q m v t : Int} (hF : okF (B + 16) b s x w) (hE : okE B l q m v) (ht : 0 ≤ t ∧ t ≤ 16) : okE (B + 16) (tB b l q t) (tS b s l q t) (tX x m t) (tW b w l v t) := by
  have hE' : okE (B + 16) l q m v := by
    obtain ⟨e1, e2, e3, e4⟩ := hE
    exact ⟨by omega, by omega, by omega, e4⟩
  obtain ⟨q1, q2, q3⟩ := t_e hF hE' ht.1
  obtain ⟨e1, e2, e3, e4⟩ := hE
  rw [q1, q2, q3]
  have hX : 0 ≤ tX x m t ∧ tX x m t ≤ B + 16 := by
    unfold tX
    rcases hF with hF | ⟨f1, f2, f3, f4⟩
    · rw [if_pos (by omega)]; omega
    · by_cases c : x < m + t
      · rw [if_pos c]; omega
      · rw [if_neg c]; omega
  by_cases cb : b = -1
  · rw [if_pos (Or.inl cb), if_pos cb, if_pos cb]
    refine ⟨by omega, ?_, hX, e4⟩
    by_cases cq : q = -1
    · rw [if_pos cq]; left; rfl
    · rw [if_neg cq]; right; omega
  · rcases hF with hF | ⟨f1, f2, f3, f4⟩
    · omega
    · rw [if_neg cb, if_neg cb]
      by_cases cl : l + t < b
      · rw [if_pos (Or.inr cl), if_pos cl, if_neg (show ¬ b < l + t by omega), if_pos cl]
        refine ⟨by omega, ?_, hX, e4⟩
        right
        by_cases cq : q = -1
        · rw [if_pos cq]; omega
        · rw [if_neg cq]
          by_cases c3 : q + t < b
          · rw [if_pos c3]; omega
          · rw [if_neg c3]; omega
      · rw [if_neg (show ¬ (b = -1 ∨ l + t < b) by omega), if_neg cl, if_neg cl]
        have hcap := cap_e (y := w + v) (by omega)
        refine ⟨f1, ?_, hX, ?_⟩
        · right
          by_cases cs : s = -1
          · rw [if_pos cs]; omega
          · rw [if_neg cs]
            by_cases c2 : l + t < s
            · rw [if_pos c2]; omega
            · rw [if_neg c2]; omega
        · by_cases c4 : b < l + t
          · rw [if_pos c4]; exact f4
          · rw [if_neg c4]; omega
theorem fd_ok {D : Int → Int → Int} {jt : Int → Int} {B : Int} {n : Nat} (hD : ∀ i : Nat, i < n → okE B (D 0 i) (D 1 i) (D 2 i) (D 3 i)) (hj : ∀ i : Nat, i < n → 0 ≤ jt i ∧ jt i ≤ 16) : ∀ j : Nat, j ≤ n → okF (B + 16) (fd D jt j 0) (fd D jt j 1) (fd D jt j 2) (fd D jt j 3) ∧ (0 < j → okE (B + 16) (fd D jt j 0) (fd D jt j 1) (fd D jt j 2) (fd D jt j 3)) := by
  intro j
  induction j with
  | zero => intro _; exact ⟨Or.inl ⟨rfl, rfl, rfl, rfl⟩, fun z => by omega⟩
  | succ j ih =>
    intro h
    have g := (ih (by omega)).1
    have e := t_ok g (hD j (by omega)) (hj j (by omega))
    obtain ⟨s1, s2, s3, s4⟩ := fd_s (D := D) (jt := jt) (j := j)
    rw [s1, s2, s3, s4]
    exact ⟨Or.inr e, fun _ => e⟩
/-! the component's offer -/
def far (f b : Int) : Int := if b = -1 then 1000000 else f + b
/-- entry e of tally o holds the fold (b s x w) with the fit f, by way v -/
def cE (σ : St) (o e f b s x w v : Int) : Prop := σ (o + 1) e = far f b ∧ σ (o + 2) e = far f s ∧ σ (o + 3) e = (if b = -1 then 0 else f + x) ∧ σ (o + 4) e = w ∧ σ (o + 5) e = v
/-- entry e of tally o holds (l q m v) -/
def cD (σ : St) (o e l q m v : Int) : Prop := σ (o + 1) e = l ∧ σ (o + 2) e = far 0 q ∧ σ (o + 3) e = m ∧ σ (o + 4) e = v
theorem far_r {f b B : Int} (hf : 0 ≤ f ∧ f ≤ 1000) (hB : B ≤ 1000) (hb : b = -1 ∨ (0 ≤ b ∧ b ≤ B)) : 0 ≤ far f b ∧ far f b ≤ 1000000 := by
  unfold far
  by_cases c : b = -1
  · rw [if_pos c]; omega
  · rw [if_neg c]; omega
theorem c_offer {σ : St} {o e g j f b s x w v l q m y t B : Int} (hE : cE σ o e f b s x w v) (hD : cD σ g j l q m y) (hB : B ≤ 1000) (hF : okF B b s x w) (hO : okE B l q m y) (hf : 0 ≤ f ∧ f ≤ 1000) (ht : 0 ≤ t ∧ t ≤ 1000) (hj : 0 ≤ j ∧ j ≤ 1000) (u1 : ∀ i, 1 ≤ i → i ≤ 5 → 0 ≤ e ∧ e < (uvLn (o + i) : Int)) (u2 : ∀ i, 1 ≤ i → i ≤ 5 → 0 ≤ j ∧ j < (uvLn (g + i) : Int)) (hog : g + 5 ≤ o ∨ o + 5 ≤ g) : ∃ τ, f_X5_offer σ o e (f + t) g j = some (0, τ) ∧ cE τ o e f (tB b l q t) (tS b s l q t) (tX x m t) (tW b w l y t) (if b = -1 ∨ l + t < b then j else v) ∧ (∀ o', (o' ≤ o ∨ o + 5 < o') → τ o' = σ o') ∧ ∀ o' i, ¬ i = e → τ o' i = σ o' i := by
  obtain ⟨a1, a2, a3, a4, a5⟩ := hE
  obtain ⟨d1, d2, d3, d4⟩ := hD
  obtain ⟨q1, q2, q3⟩ := t_e hF hO ht.1
  obtain ⟨p1, p2, p3, p4⟩ := hO
  have x1 := u1 1 (by omega) (by omega)
  have x2 := u1 2 (by omega) (by omega)
  have x3 := u1 3 (by omega) (by omega)
  have x4 := u1 4 (by omega) (by omega)
  have x5 := u1 5 (by omega) (by omega)
  have y1 := u2 1 (by omega) (by omega)
  have y2 := u2 2 (by omega) (by omega)
  have y3 := u2 3 (by omega) (by omega)
  have y4 := u2 4 (by omega) (by omega)
  have hX : -1 ≤ x ∧ x ≤ 1000 ∧ -1 ≤ b ∧ b ≤ 1000 ∧ -1 ≤ s ∧ s ≤ 1000 ∧ 0 ≤ w ∧ w ≤ 1000000000 := by
    rcases hF with hF | ⟨f1, f2, f3, f4⟩ <;> omega
  have eX : f_J9_max_7cf53 (σ (o + 3) e) (f + t + m) = f + tX x m t := by
    rw [a3]
    unfold tX
    by_cases cb : b = -1
    · have : x = -1 := by rcases hF with hF | ⟨f1, f2, f3, f4⟩ <;> omega
      rw [if_pos cb, max_e (by omega), if_pos (show x < m + t by omega)]
      by_cases c : 0 < f + t + m
      · rw [if_pos c]; omega
      · rw [if_neg c]; omega
    · rw [if_neg cb, max_e (by omega)]
      by_cases c : x < m + t
      · rw [if_pos c, if_pos (by omega)]; omega
      · rw [if_neg c, if_neg (by omega)]
  have fr : ∀ (z1 z2 z3 z4 z5 : Int) (o' : Int), (o' ≤ o ∨ o + 5 < o') → upS (upS (upS (upS (upS σ (o + 3) e z1) (o + 2) e z2) (o + 1) e z3) (o + 4) e z4) (o + 5) e z5 o' = σ o' := fun z1 z2 z3 z4 z5 o' ho => by rw [upS_of (by omega), upS_of (by omega), upS_of (by omega), upS_of (by omega), upS_of (by omega)]
  have d2r : 0 ≤ far 0 q ∧ far 0 q ≤ 1000000 := far_r (B := B) (by omega) hB (by omega)
  have a1r : 0 ≤ far f b ∧ far f b ≤ 1000000 := far_r (B := 1000) hf (by omega) (by omega)
  have a2r : 0 ≤ far f s ∧ far f s ≤ 1000000 := far_r (B := 1000) hf (by omega) (by omega)
  have nb : ¬ tB b l q t = -1 := by
    rw [q1]
    by_cases c : b = -1 ∨ l + t < b
    · rw [if_pos c]; omega
    · rw [if_neg c]; omega
  unfold f_X5_offer
  by_cases c : b = -1 ∨ l + t < b
  · have lt : f + t + l < far f b := by
      unfold far
      by_cases cb : b = -1
      · rw [if_pos cb]; omega
      · rw [if_neg cb]; omega
    have eS : f_J9_min_7cf53 (far f b) (f + t + far 0 q) = far f (tS b s l q t) := by
      rw [min_e (by omega), q2]
      unfold far
      by_cases cb : b = -1
      · rw [if_pos cb, if_pos cb]
        by_cases cq : q = -1
        · rw [if_pos cq, if_pos cq, if_pos rfl, if_neg (by omega)]
        · rw [if_neg cq, if_neg cq, if_neg (show ¬ q + t = -1 by omega), if_pos (by omega)]; omega
      · have cl : l + t < b := by omega
        rw [if_neg cb, if_neg cb, if_pos cl]
        by_cases cq : q = -1
        · rw [if_pos cq, if_pos cq, if_neg cb, if_neg (by omega)]
        · rw [if_neg cq, if_neg cq]
          by_cases c3 : q + t < b
          · rw [if_pos c3, if_neg (show ¬ q + t = -1 by omega), if_pos (by omega)]; omega
          · rw [if_neg c3, if_neg cb, if_neg (by omega)]
    have eW : tW b w l y t = y := by
      rw [q3]
      by_cases cb : b = -1
      · rw [if_pos cb]
      · rw [if_neg cb, if_neg (show ¬ b < l + t by omega), if_pos (by omega)]
    rw [if_pos c]
    rw [if_pos c] at q1
    refine ⟨upS (upS (upS (upS (upS σ (o + 3) e (f + tX x m t)) (o + 2) e (far f (tS b s l q t))) (o + 1) e (f + t + l)) (o + 4) e y) (o + 5) e j, ?_, ⟨?_, ?_, ?_, ?_, ?_⟩, fun o' ho => fr _ _ _ _ _ o' ho, fun o' i hi => by rw [upS_i hi, upS_i hi, upS_i hi, upS_i hi, upS_i hi]⟩
    · simp (disch := omega) only [↓rdA_t, ↓wrA_t, ↓ixA_t, ↓wrF_d, ↓bd2_s, ↓bd1_s, ↓bnd_d, ↓iww_t, ↓iww_f, ↓iwl_t, ↓iwl_f, ↓ilw_t, ↓ilw_f, ↓eww_t, ↓eww_f, ↓ewl_t, ↓ewl_f, ↓ez_t, ↓ez_f, ↓il_t, ↓il_f, il_t, il_f, ez_t, ez_f, if_true, if_false, upS_h, upS_o, upS_i, Int.reduceAdd, Int.reduceSub, Int.reduceMul, Int.reduceNeg, wI_id, d1, d2, d3, d4, eX, a1, eS]
    · simp (disch := omega) only [upS_h, upS_o, upS_i, Int.reduceAdd, Int.reduceSub, Int.reduceMul, Int.reduceNeg]
      unfold far
      rw [q1, if_neg (by omega)]; omega
    · simp (disch := omega) only [upS_h, upS_o, upS_i, Int.reduceAdd, Int.reduceSub, Int.reduceMul, Int.reduceNeg]
    · simp (disch := omega) only [upS_h, upS_o, upS_i, Int.reduceAdd, Int.reduceSub, Int.reduceMul, Int.reduceNeg]
      rw [if_neg nb]
    · simp (disch := omega) only [upS_h, upS_o, upS_i, Int.reduceAdd, Int.reduceSub, Int.reduceMul, Int.reduceNeg]
      exact eW.symm
    · simp (disch := omega) only [upS_h, upS_o, upS_i, Int.reduceAdd, Int.reduceSub, Int.reduceMul, Int.reduceNeg]
  · have cb : ¬ b = -1 := fun z => c (Or.inl z)
    have cl : ¬ l + t < b := fun z => c (Or.inr z)
    have eL : far f b = f + b := if_neg cb
    have eS : f_J9_min_7cf53 (far f s) (f + t + l) = far f (tS b s l q t) := by
      rw [min_e (by omega), q2, if_neg cb, if_neg cl]
      unfold far
      by_cases cs : s = -1
      · rw [if_pos cs, if_pos cs, if_neg (show ¬ l + t = -1 by omega), if_pos (by omega)]; omega
      · rw [if_neg cs, if_neg cs]
        by_cases c3 : l + t < s
        · rw [if_pos c3, if_neg (show ¬ l + t = -1 by omega), if_pos (by omega)]; omega
        · rw [if_neg c3, if_neg cs, if_neg (by omega)]
    have eB : far f (tB b l q t) = far f b := by rw [q1, if_neg c]
    rw [if_neg c]
    by_cases c4 : l + t = b
    · have eW : f_J9_min_7cf53 1000000000 (w + y) = tW b w l y t := by
        rw [q3, if_neg cb, if_neg (show ¬ b < l + t by omega), if_neg cl, min_e (by omega)]
        unfold cap
        by_cases c5 : 1000000000 < w + y
        · rw [if_pos c5, if_neg (by omega)]
        · rw [if_neg c5]
          by_cases c6 : w + y < 1000000000
          · rw [if_pos c6]
          · rw [if_neg c6]; omega
      refine ⟨upS (upS (upS σ (o + 3) e (f + tX x m t)) (o + 2) e (far f (tS b s l q t))) (o + 4) e (tW b w l y t), ?_, ⟨?_, ?_, ?_, ?_, ?_⟩, fun o' ho => by rw [upS_of (by omega), upS_of (by omega), upS_of (by omega)], fun o' i hi => by rw [upS_i hi, upS_i hi, upS_i hi]⟩
      · simp (disch := omega) only [↓rdA_t, ↓wrA_t, ↓ixA_t, ↓wrF_d, ↓bd2_s, ↓bd1_s, ↓bnd_d, ↓iww_t, ↓iww_f, ↓iwl_t, ↓iwl_f, ↓ilw_t, ↓ilw_f, ↓eww_t, ↓eww_f, ↓ewl_t, ↓ewl_f, ↓ez_t, ↓ez_f, ↓il_t, ↓il_f, il_t, il_f, ez_t, ez_f, if_true, if_false, upS_h, upS_o, upS_i, Int.reduceAdd, Int.reduceSub, Int.reduceMul, Int.reduceNeg, wI_id, d1, d2, d3, d4, eX, a1, a2, a4, eL, eS, eW]
      · simp (disch := omega) only [upS_h, upS_o, upS_i, Int.reduceAdd, Int.reduceSub, Int.reduceMul, Int.reduceNeg]
        rw [eB]; exact a1
      · simp (disch := omega) only [upS_h, upS_o, upS_i, Int.reduceAdd, Int.reduceSub, Int.reduceMul, Int.reduceNeg]
      · simp (disch := omega) only [upS_h, upS_o, upS_i, Int.reduceAdd, Int.reduceSub, Int.reduceMul, Int.reduceNeg]
        rw [if_neg nb]
      · simp (disch := omega) only [upS_h, upS_o, upS_i, Int.reduceAdd, Int.reduceSub, Int.reduceMul, Int.reduceNeg]
      · simp (disch := omega) only [upS_h, upS_o, upS_i, Int.reduceAdd, Int.reduceSub, Int.reduceMul, Int.reduceNeg]
        exact a5
    · have eW : tW b w l y t = w := by
        rw [q3, if_neg cb, if_pos (by omega)]
      refine ⟨upS (upS σ (o + 3) e (f + tX x m t)) (o + 2) e (far f (tS b s l q t)), ?_, ⟨?_, ?_, ?_, ?_, ?_⟩, fun o' ho => by rw [upS_of (by omega), upS_of (by omega)], fun o' i hi => by rw [upS_i hi, upS_i hi]⟩
      · simp (disch := omega) only [↓rdA_t, ↓wrA_t, ↓ixA_t, ↓wrF_d, ↓bd2_s, ↓bd1_s, ↓bnd_d, ↓iww_t, ↓iww_f, ↓iwl_t, ↓iwl_f, ↓ilw_t, ↓ilw_f, ↓eww_t, ↓eww_f, ↓ewl_t, ↓ewl_f, ↓ez_t, ↓ez_f, ↓il_t, ↓il_f, il_t, il_f, ez_t, ez_f, if_true, if_false, upS_h, upS_o, upS_i, Int.reduceAdd, Int.reduceSub, Int.reduceMul, Int.reduceNeg, wI_id, d1, d2, d3, d4, eX, a1, a2, eL, eS]
      · simp (disch := omega) only [upS_h, upS_o, upS_i, Int.reduceAdd, Int.reduceSub, Int.reduceMul, Int.reduceNeg]
        rw [eB]; exact a1
      · simp (disch := omega) only [upS_h, upS_o, upS_i, Int.reduceAdd, Int.reduceSub, Int.reduceMul, Int.reduceNeg]
      · simp (disch := omega) only [upS_h, upS_o, upS_i, Int.reduceAdd, Int.reduceSub, Int.reduceMul, Int.reduceNeg]
        rw [if_neg nb]
      · simp (disch := omega) only [upS_h, upS_o, upS_i, Int.reduceAdd, Int.reduceSub, Int.reduceMul, Int.reduceNeg]
        rw [eW]; exact a4
      · simp (disch := omega) only [upS_h, upS_o, upS_i, Int.reduceAdd, Int.reduceSub, Int.reduceMul, Int.reduceNeg]
        exact a5
end
section
/-! ===== the prices of all chains from a target on ===== -/
/-- for the target m before the last: least, second or -1, most, ways of the chains that begin with entry i -/
def dp (α : St) (a kd : Int) : Nat → Int → Int → Int
  | 0, w, i => if w = 1 then -1 else if w = 3 then 1 else fitS α kd (uCh α a (α 0 1 - 1) i) (α 0 1 - 1)
  | m + 1, w, i => if w = 3 then fd (dp α a kd m) (fun j => joiS α (uCh α a (α 0 1 - 1 - (m + 1 : Nat)) i) (uCh α a (α 0 1 - 1 - (m : Nat)) j)) (nCh α a (α 0 1 - 1 - (m : Nat))).toNat 3 else if w = 1 then (if fd (dp α a kd m) (fun j => joiS α (uCh α a (α 0 1 - 1 - (m + 1 : Nat)) i) (uCh α a (α 0 1 - 1 - (m : Nat)) j)) (nCh α a (α 0 1 - 1 - (m : Nat))).toNat 1 = -1 then -1 else fitS α kd (uCh α a (α 0 1 - 1 - (m + 1 : Nat)) i) (α 0 1 - 1 - (m + 1 : Nat)) + fd (dp α a kd m) (fun j => joiS α (uCh α a (α 0 1 - 1 - (m + 1 : Nat)) i) (uCh α a (α 0 1 - 1 - (m : Nat)) j)) (nCh α a (α 0 1 - 1 - (m : Nat))).toNat 1) else fitS α kd (uCh α a (α 0 1 - 1 - (m + 1 : Nat)) i) (α 0 1 - 1 - (m + 1 : Nat)) + fd (dp α a kd m) (fun j => joiS α (uCh α a (α 0 1 - 1 - (m + 1 : Nat)) i) (uCh α a (α 0 1 - 1 - (m : Nat)) j)) (nCh α a (α 0 1 - 1 - (m : Nat))).toNat w
/-- joints from an entry of one target to the entries of the next -/
def jnt (α : St) (a k i : Int) : Int → Int := fun j => joiS α (uCh α a k i) (uCh α a (k + 1) j)
/-- a step of dp, by the target's own number -/
theorem dp_s {α : St} {a kd k i : Int} {m : Nat} (hk : k = α 0 1 - 1 - (m + 1 : Nat)) : dp α a kd (m + 1) 0 i = fitS α kd (uCh α a k i) k + fd (dp α a kd m) (jnt α a k i) (nCh α a (k + 1)).toNat 0 ∧ dp α a kd (m + 1) 1 i = (if fd (dp α a kd m) (jnt α a k i) (nCh α a (k + 1)).toNat 1 = -1 then -1 else fitS α kd (uCh α a k i) k + fd (dp α a kd m) (jnt α a k i) (nCh α a (k + 1)).toNat 1) ∧ dp α a kd (m + 1) 2 i = fitS α kd (uCh α a k i) k + fd (dp α a kd m) (jnt α a k i) (nCh α a (k + 1)).toNat 2 ∧ dp α a kd (m + 1) 3 i = fd (dp α a kd m) (jnt α a k i) (nCh α a (k + 1)).toNat 3 := by
  have e : α 0 1 - 1 - (m : Nat) = k + 1 := by omega
  refine ⟨?_, ?_, ?_, ?_⟩ <;> (rw [dp, e, ← hk]; rfl)
theorem dp_ok {α : St} {a kd : Int} (hw : WF α) (hf : allF α a) : ∀ (m : Nat) (k : Int), k = α 0 1 - 1 - (m : Nat) → 0 ≤ k → ∀ i : Nat, (i : Int) < nCh α a k → okE (60 * (m + 1)) (dp α a kd m 0 i) (dp α a kd m 1 i) (dp α a kd m 2 i) (dp α a kd m 3 i) := by
  intro m
  induction m with
  | zero =>
    intro k hk h0 i hi
    have u := uCh_r (a := a) (k := k) (i := (i : Int)) hw (by omega) hi
    have r := fitS_r (a := kd) hw u.1.1 u.1.2 h0 (by omega)
    have ek : α 0 1 - 1 = k := by simpa using hk.symm
    have e0 : dp α a kd 0 0 i = fitS α kd (uCh α a k i) k := by rw [dp, ek]; rfl
    have e1 : dp α a kd 0 1 i = -1 := rfl
    have e2 : dp α a kd 0 2 i = fitS α kd (uCh α a k i) k := by rw [dp, ek]; rfl
    have e3 : dp α a kd 0 3 i = 1 := rfl
    rw [e0, e1, e2, e3]
    unfold okE
    omega
  | succ m ih =>
    intro k hk h0 i hi
    have u := uCh_r (a := a) (k := k) (i := (i : Int)) hw (by omega) hi
    have r := fitS_r (a := kd) hw u.1.1 u.1.2 h0 (by omega)
    have n1 := nCh_r hw (show 0 ≤ k + 1 by omega) (show k + 1 < α 0 1 by omega) (hf (k + 1) (by omega) (by omega))
    have g := (fd_ok (D := dp α a kd m) (jt := jnt α a k i) (B := 60 * (m + 1)) (n := (nCh α a (k + 1)).toNat) (fun j hj => ih (k + 1) (by omega) (by omega) j (by omega)) (fun j hj => by
      have v := uCh_r (a := a) (k := k + 1) (i := (j : Int)) hw (by omega) (by omega)
      exact joiS_r hw.1 u.1.1 u.1.2 v.1.1 v.1.2) (nCh α a (k + 1)).toNat (by omega)).2 (by omega)
    obtain ⟨s0, s1, s2, s3⟩ := dp_s (α := α) (a := a) (kd := kd) (i := (i : Int)) hk
    obtain ⟨g1, g2, g3, g4⟩ := g
    rw [s0, s1, s2, s3]
    refine ⟨by omega, ?_, by omega, g4⟩
    by_cases c : fd (dp α a kd m) (jnt α a k i) (nCh α a (k + 1)).toNat 1 = -1
    · rw [if_pos c]; left; rfl
    · rw [if_neg c]; right; omega
/-- which entry of the next target -/
def via (α : St) (a kd : Int) : Nat → Int → Int
  | 0, _ => 0
  | m + 1, i => fv (dp α a kd m) (jnt α a (α 0 1 - 1 - (m + 1 : Nat)) i) (nCh α a (α 0 1 - 1 - (m + 1 : Nat) + 1)).toNat
/-- tally k holds dp -/
def cV (σ α : St) (a kd k : Int) (m : Nat) (i : Int) : Prop := cD σ (70 + 6 * k) i (dp α a kd m 0 i) (dp α a kd m 1 i) (dp α a kd m 2 i) (dp α a kd m 3 i) ∧ σ (70 + 6 * k + 5) i = via α a kd m i
theorem cE_V {σ : St} {o e f b s x w v : Int} (h : cE σ o e f b s x w v) (hb : ¬ b = -1) (hf : 0 ≤ f) (hs : -1 ≤ s) : cD σ o e (f + b) (if s = -1 then -1 else f + s) (f + x) w ∧ σ (o + 5) e = v := by
  obtain ⟨a1, a2, a3, a4, a5⟩ := h
  refine ⟨⟨by rw [a1]; exact if_neg hb, ?_, by rw [a3, if_neg hb], a4⟩, a5⟩
  rw [a2]
  unfold far
  by_cases c : s = -1
  · rw [if_pos c, if_pos c, if_pos rfl]
  · rw [if_neg c, if_neg c, if_neg (by omega)]; omega
theorem c_begin {σ : St} {k i f : Int} (hk : 0 ≤ k ∧ k < 8) (hi : 0 ≤ i ∧ i < 40) : ∃ τ, f_X5_begin σ (70 + 6 * k) i = some (0, τ) ∧ cE τ (70 + 6 * k) i f (-1) (-1) (-1) 0 0 ∧ (∀ o', (o' ≤ 70 + 6 * k ∨ 70 + 6 * k + 5 < o') → τ o' = σ o') ∧ ∀ o' j, ¬ j = i → τ o' j = σ o' j := by
  unfold f_X5_begin
  rw [uv_40 (by omega), uv_40 (by omega), uv_40 (by omega), uv_40 (by omega), uv_40 (by omega)]
  simp (disch := omega) only [↓rdA_t, ↓wrA_t, ↓ixA_t, ↓wrF_d, ↓bd2_s, ↓bd1_s, ↓bnd_d, ↓iww_t, ↓iww_f, ↓iwl_t, ↓iwl_f, ↓ilw_t, ↓ilw_f, ↓eww_t, ↓eww_f, ↓ewl_t, ↓ewl_f, ↓ez_t, ↓ez_f, ↓il_t, ↓il_f, il_t, il_f, ez_t, ez_f, if_true, if_false, upS_h, upS_o, upS_i, Int.reduceAdd, Int.reduceSub, Int.reduceMul, Int.reduceNeg, wI_id]
  refine ⟨_, rfl, ⟨by simp (disch := omega) only [upS_h, upS_o, upS_i, Int.reduceAdd, Int.reduceSub, Int.reduceMul, Int.reduceNeg]; rfl, by simp (disch := omega) only [upS_h, upS_o, upS_i, Int.reduceAdd, Int.reduceSub, Int.reduceMul, Int.reduceNeg]; rfl, by simp (disch := omega) only [upS_h, upS_o, upS_i, Int.reduceAdd, Int.reduceSub, Int.reduceMul, Int.reduceNeg]; rfl, by simp (disch := omega) only [upS_h, upS_o, upS_i, Int.reduceAdd, Int.reduceSub, Int.reduceMul, Int.reduceNeg], by simp (disch := omega) only [upS_h, upS_o, upS_i, Int.reduceAdd, Int.reduceSub, Int.reduceMul, Int.reduceNeg]⟩, fun o' ho => by rw [upS_of (by omega), upS_of (by omega), upS_of (by omega), upS_of (by omega), upS_of (by omega)], fun o' j hj => by rw [upS_i hj, upS_i hj, upS_i hj, upS_i hj, upS_i hj]⟩
/-- what the weighing keeps -/
def cW (σ τ : St) : Prop := ∀ o, (o < 58 ∨ (62 < o ∧ o < 71) ∨ 117 < o) → τ o = σ o
theorem cW_I {σ τ α : St} (h : cW σ τ) (hI : IC σ α) : IC τ α := IC_scr (fun o ho i _ => by rw [h o (by omega)]) hI
theorem cW_t {σ τ ρ : St} (h1 : cW σ τ) (h2 : cW τ ρ) : cW σ ρ := fun o ho => (h2 o ho).trans (h1 o ho)
theorem cW_C {σ τ α : St} {a q : Int} (h : cW σ τ) (hq : 0 ≤ q ∧ q < 8) (hc : cCh σ α a q) : cCh τ α a q := by
  unfold cCh at hc ⊢
  rw [h (38 + 2 * q) (by omega), h (38 + 2 * q + 1) (by omega)]
  exact hc
theorem c_entry_g {α : St} {a kd k i : Int} {m : Nat} (kx : St → Option (Int × St)) (hw : WF α) (hf : allF α a) (h0 : 0 ≤ k) (hk : k = α 0 1 - 1 - (m + 1 : Nat)) (hi : 0 ≤ i ∧ i < nCh α a k) : ∀ (r x : Nat) (σ : St) (n : Nat), IC σ α → cCh σ α a (k + 1) → (∀ j, 0 ≤ j → j < nCh α a (k + 1) → cV σ α a kd (k + 1) m j) → (x : Int) + r = nCh α a (k + 1) → cE σ (70 + 6 * k) i (fitS α kd (uCh α a k i) k) (fd (dp α a kd m) (jnt α a k i) x 0) (fd (dp α a kd m) (jnt α a k i) x 1) (fd (dp α a kd m) (jnt α a k i) x 2) (fd (dp α a kd m) (jnt α a k i) x 3) (fv (dp α a kd m) (jnt α a k i) x) → r < n → ∃ τ, lp_X0_weighEntry_80 k i (uCh α a k i) (fitS α kd (uCh α a k i) k) (38 + 2 * (k + 1)) kx n σ x = kx τ ∧ cE τ (70 + 6 * k) i (fitS α kd (uCh α a k i) k) (fd (dp α a kd m) (jnt α a k i) (x + r) 0) (fd (dp α a kd m) (jnt α a k i) (x + r) 1) (fd (dp α a kd m) (jnt α a k i) (x + r) 2) (fd (dp α a kd m) (jnt α a k i) (x + r) 3) (fv (dp α a kd m) (jnt α a k i) (x + r)) ∧ (∀ o', (o' ≤ 70 + 6 * k ∨ 70 + 6 * k + 5 < o') → τ o' = σ o') ∧ ∀ o' j, ¬ j = i → τ o' j = σ o' j := by
  intro r
  have w2 := hw.2.1.2.1
  have w3 := hw.1.2.1
  have n1 := nCh_r hw (show 0 ≤ k + 1 by omega) (show k + 1 < α 0 1 by omega) (hf (k + 1) (by omega) (by omega))
  have n0 := nCh_r hw h0 (show k < α 0 1 by omega) (hf k h0 (by omega))
  have u := uCh_r (a := a) (k := k) (i := i) hw hi.1 hi.2
  have fr := fitS_r (a := kd) hw u.1.1 u.1.2 h0 (by omega)
  have hjr : ∀ j : Nat, j < (nCh α a (k + 1)).toNat → 0 ≤ jnt α a k i j ∧ jnt α a k i j ≤ 16 := fun j hj => by
    have v := uCh_r (a := a) (k := k + 1) (i := (j : Int)) hw (by omega) (by omega)
    exact joiS_r hw.1 u.1.1 u.1.2 v.1.1 v.1.2
  have hDr : ∀ j : Nat, j < (nCh α a (k + 1)).toNat → okE (60 * (m + 1)) (dp α a kd m 0 j) (dp α a kd m 1 j) (dp α a kd m 2 j) (dp α a kd m 3 j) := fun j hj => dp_ok hw hf m (k + 1) (by omega) (by omega) j (by omega)
  induction r with
  | zero =>
    intro x σ n h hc hv h1 hE hn
    obtain ⟨n, rfl⟩ : ∃ k, n = k + 1 := ⟨n - 1, by omega⟩
    have e1 := (hc.1 (hf (k + 1) (by omega) (by omega))).1
    rw [lp_X0_weighEntry_80]
    exact ⟨σ, by simp (disch := omega) only [↓rdA_t, ↓wrA_t, ↓ixA_t, ↓wrF_d, ↓bd2_s, ↓bd1_s, ↓bnd_d, ↓iww_t, ↓iww_f, ↓iwl_t, ↓iwl_f, ↓ilw_t, ↓ilw_f, ↓eww_t, ↓eww_f, ↓ewl_t, ↓ewl_f, ↓ez_t, ↓ez_f, ↓il_t, ↓il_f, il_t, il_f, ez_t, ez_f, if_true, if_false, upS_h, upS_o, upS_i, Int.reduceAdd, Int.reduceSub, Int.reduceMul, Int.reduceNeg, wI_id], hE, fun _ _ => rfl, fun _ _ _ => rfl⟩
  | succ r ih =>
    intro x σ n h hc hv h1 hE hn
    obtain ⟨n, rfl⟩ : ∃ k, n = k + 1 := ⟨n - 1, by omega⟩
    obtain ⟨e1, e2, e3⟩ := hc.1 (hf (k + 1) (by omega) (by omega))
    have e4 := e3 x (by omega) (by omega)
    have v := uCh_r (a := a) (k := k + 1) (i := (x : Int)) hw (by omega) (by omega)
    have e5 := c_joint h.1 hw.1 u.1.1 u.1.2 v.1.1 v.1.2
    have okf := (fd_ok hDr hjr x (by omega)).1
    have oke := hDr x (by omega)
    have oke' : okE (60 * (m + 1) + 16) (dp α a kd m 0 x) (dp α a kd m 1 x) (dp α a kd m 2 x) (dp α a kd m 3 x) := by
      obtain ⟨o1, o2, o3, o4⟩ := oke
      exact ⟨by omega, by omega, by omega, o4⟩
    have jr := hjr x (by omega)
    obtain ⟨τ, g1, g2, g3, g4⟩ := c_offer (t := jnt α a k i x) (B := 60 * (m + 1) + 16) hE (hv x (by omega) (by omega)).1 (by omega) okf oke' (by omega) (by omega) (by omega) (fun z z1 z2 => by rw [uv_40 (by omega)]; omega) (fun z z1 z2 => by rw [uv_40 (by omega)]; omega) (by omega)
    have sc : cW σ τ := fun o ho => g3 o (by omega)
    obtain ⟨ρ, f1, f2, f3, f4⟩ := ih (x + 1) τ n (cW_I sc h) (cW_C sc (by omega) hc) (fun j j1 j2 => by
      have q := hv j j1 j2
      unfold cV cD at q ⊢
      rw [g3 (70 + 6 * (k + 1) + 1) (by omega), g3 (70 + 6 * (k + 1) + 2) (by omega), g3 (70 + 6 * (k + 1) + 3) (by omega), g3 (70 + 6 * (k + 1) + 4) (by omega), g3 (70 + 6 * (k + 1) + 5) (by omega)]
      exact q) (by omega) g2 (by omega)
    rw [show x + 1 + r = x + (r + 1) by omega] at f2
    rw [show ((x + 1 : Nat) : Int) = (x : Int) + 1 by omega] at f1
    refine ⟨ρ, ?_, f2, fun o' ho => by rw [f3 o' ho, g3 o' ho], fun o' j hj => by rw [f4 o' j hj, g4 o' j hj]⟩
    rw [← f1, lp_X0_weighEntry_80]
    have ej : joiS α (uCh α a k i) (uCh α a (k + 1) x) = jnt α a k i x := rfl
    rw [ej] at e5
    simp (disch := omega) only [↓rdA_t, ↓wrA_t, ↓ixA_t, ↓wrF_d, ↓bd2_s, ↓bd1_s, ↓bnd_d, ↓iww_t, ↓iww_f, ↓iwl_t, ↓iwl_f, ↓ilw_t, ↓ilw_f, ↓eww_t, ↓eww_f, ↓ewl_t, ↓ewl_f, ↓ez_t, ↓ez_f, ↓il_t, ↓il_f, il_t, il_f, ez_t, ez_f, if_true, if_false, upS_h, upS_o, upS_i, Int.reduceAdd, Int.reduceSub, Int.reduceMul, Int.reduceNeg, wI_id, e1, e4, e5, g1]
end
section
/-! ===== the component weighs ===== -/
theorem c_entry {σ α : St} {a kd k i : Int} {m : Nat} (h : IC σ α) (hw : WF α) (hf : allF α a) (hkd : 0 ≤ kd ∧ kd ≤ 4) (h0 : 0 ≤ k) (hk : k = α 0 1 - 1 - (m : Nat)) (hi : 0 ≤ i ∧ i < nCh α a k) (hc : ∀ q, 0 ≤ q → q < α 0 1 → cCh σ α a q) (hv : ∀ m' : Nat, m = m' + 1 → ∀ j, 0 ≤ j → j < nCh α a (k + 1) → cV σ α a kd (k + 1) m' j) : ∃ τ, f_X0_weighEntry σ kd k i = some (0, τ) ∧ cV τ α a kd k m i ∧ (∀ o', (o' ≤ 70 + 6 * k ∨ 70 + 6 * k + 5 < o') → τ o' = σ o') ∧ ∀ o' j, ¬ j = i → τ o' j = σ o' j := by
  have w2 := hw.2.1.2.1
  have w3 := hw.1.2.1
  have n0 := nCh_r hw h0 (show k < α 0 1 by omega) (hf k h0 (by omega))
  have u := uCh_r (a := a) (k := k) (i := i) hw hi.1 hi.2
  have fr := fitS_r (a := kd) hw u.1.1 u.1.2 h0 (by omega)
  have e1 := ((hc k h0 (by omega)).1 (hf k h0 (by omega))).2.2 i hi.1 hi.2
  have e2 := c_fit h hw hkd u.1.1 u.1.2 h0 (show k < α 0 1 by omega)
  obtain ⟨τ, g1, g2, g3, g4⟩ := c_begin (σ := σ) (k := k) (i := i) (f := fitS α kd (uCh α a k i) k) (by omega) (by omega)
  have sc : cW σ τ := fun o ho => g3 o (by omega)
  have hI := cW_I sc h
  have hs := hI.2.1.1
  unfold f_X0_weighEntry
  cases m with
  | zero =>
    have hD : cD τ 63 0 0 (-1) 0 1 := ⟨hI.2.2.1.2.2.2.2.2.1, hI.2.2.1.2.2.2.2.2.2.1, hI.2.2.1.2.2.2.2.2.2.2.1, hI.2.2.1.2.2.2.2.2.2.2.2⟩
    obtain ⟨ρ, f1, f2, f3, f4⟩ := c_offer (t := 0) (B := 10) g2 hD (by omega) (Or.inl ⟨rfl, rfl, rfl, rfl⟩) ⟨by omega, Or.inl rfl, by omega, by omega⟩ (by omega) (by omega) (by omega) (fun z z1 z2 => by rw [uv_40 (by omega)]; omega) (fun z z1 z2 => by rw [uv_1 (by omega)]; omega) (by omega)
    rw [Int.add_zero] at f1
    have e : tB (-1) 0 (-1) 0 = 0 ∧ tS (-1) (-1) 0 (-1) 0 = -1 ∧ tX (-1) 0 0 = 0 ∧ tW (-1) 0 0 1 0 = 1 := by decide
    rw [e.1, e.2.1, e.2.2.1, e.2.2.2] at f2
    obtain ⟨q1, q2⟩ := cE_V f2 (by omega) fr.1 (by omega)
    have ek : α 0 1 - 1 = k := by simpa using hk.symm
    refine ⟨ρ, ?_, ⟨?_, q2⟩, fun o' ho => by rw [f3 o' ho, g3 o' ho], fun o' j hj => by rw [f4 o' j hj, g4 o' j hj]⟩
    · simp (disch := omega) only [↓rdA_t, ↓wrA_t, ↓ixA_t, ↓wrF_d, ↓bd2_s, ↓bd1_s, ↓bnd_d, ↓iww_t, ↓iww_f, ↓iwl_t, ↓iwl_f, ↓ilw_t, ↓ilw_f, ↓eww_t, ↓eww_f, ↓ewl_t, ↓ewl_f, ↓ez_t, ↓ez_f, ↓il_t, ↓il_f, il_t, il_f, ez_t, ez_f, if_true, if_false, upS_h, upS_o, upS_i, Int.reduceAdd, Int.reduceSub, Int.reduceMul, Int.reduceNeg, wI_id, e1, e2, g1, f1]
    · have d0 : dp α a kd 0 0 i = fitS α kd (uCh α a k i) k := by rw [dp, ek]; rfl
      have d1 : dp α a kd 0 1 i = -1 := rfl
      have d2 : dp α a kd 0 2 i = fitS α kd (uCh α a k i) k := by rw [dp, ek]; rfl
      have d3 : dp α a kd 0 3 i = 1 := rfl
      rw [d0, d1, d2, d3]
      rw [if_pos rfl, Int.add_zero] at q1
      exact q1
  | succ m =>
    have n1 := nCh_r hw (show 0 ≤ k + 1 by omega) (show k + 1 < α 0 1 by omega) (hf (k + 1) (by omega) (by omega))
    obtain ⟨ρ, f1, f2, f3, f4⟩ := c_entry_g (α := α) (a := a) (kd := kd) (k := k) (i := i) (m := m) (fun σ16 => some (0, σ16)) hw hf h0 hk hi (nCh α a (k + 1)).toNat 0 τ 1000 hI (cW_C sc (by omega) (hc (k + 1) (by omega) (by omega))) (fun j j1 j2 => by
      have q := hv m rfl j j1 j2
      unfold cV cD at q ⊢
      rw [g3 (70 + 6 * (k + 1) + 1) (by omega), g3 (70 + 6 * (k + 1) + 2) (by omega), g3 (70 + 6 * (k + 1) + 3) (by omega), g3 (70 + 6 * (k + 1) + 4) (by omega), g3 (70 + 6 * (k + 1) + 5) (by omega)]
      exact q) (by omega) g2 (by omega)
    rw [Nat.zero_add] at f2
    have hjr : ∀ j : Nat, j < (nCh α a (k + 1)).toNat → 0 ≤ jnt α a k i j ∧ jnt α a k i j ≤ 16 := fun j hj => by
      have v := uCh_r (a := a) (k := k + 1) (i := (j : Int)) hw (by omega) (by omega)
      exact joiS_r hw.1 u.1.1 u.1.2 v.1.1 v.1.2
    have hDr : ∀ j : Nat, j < (nCh α a (k + 1)).toNat → okE (60 * (m + 1)) (dp α a kd m 0 j) (dp α a kd m 1 j) (dp α a kd m 2 j) (dp α a kd m 3 j) := fun j hj => dp_ok hw hf m (k + 1) (by omega) (by omega) j (by omega)
    have ok := (fd_ok hDr hjr (nCh α a (k + 1)).toNat (by omega)).2 (by omega)
    obtain ⟨o1, o2, o3, o4⟩ := ok
    obtain ⟨q1, q2⟩ := cE_V f2 (by omega) fr.1 (by omega)
    obtain ⟨s0, s1, s2, s3⟩ := dp_s (α := α) (a := a) (kd := kd) (i := i) hk
    refine ⟨ρ, ?_, ⟨?_, ?_⟩, fun o' ho => by rw [f3 o' ho, g3 o' ho], fun o' j hj => by rw [f4 o' j hj, g4 o' j hj]⟩
    · have e0 : (((0 : Nat)) : Int) = 0 := rfl
      rw [e0] at f1
      simp (disch := omega) only [↓rdA_t, ↓wrA_t, ↓ixA_t, ↓wrF_d, ↓bd2_s, ↓bd1_s, ↓bnd_d, ↓iww_t, ↓iww_f, ↓iwl_t, ↓iwl_f, ↓ilw_t, ↓ilw_f, ↓eww_t, ↓eww_f, ↓ewl_t, ↓ewl_f, ↓ez_t, ↓ez_f, ↓il_t, ↓il_f, il_t, il_f, ez_t, ez_f, if_true, if_false, upS_h, upS_o, upS_i, Int.reduceAdd, Int.reduceSub, Int.reduceMul, Int.reduceNeg, wI_id, e1, e2, g1, f1]
    · rw [s0, s1, s2, s3]
      exact q1
    · rw [q2, via, ← hk]
theorem c_weigh_16 {α : St} {a kd k : Int} {m : Nat} (kx : St → Option (Int × St)) (hw : WF α) (hf : allF α a) (hkd : 0 ≤ kd ∧ kd ≤ 4) (h0 : 0 ≤ k) (hk : k = α 0 1 - 1 - (m : Nat)) : ∀ (r : Nat) (σ : St) (x : Int) (n : Nat), IC σ α → (∀ q, 0 ≤ q → q < α 0 1 → cCh σ α a q) → (∀ m' : Nat, m = m' + 1 → ∀ j, 0 ≤ j → j < nCh α a (k + 1) → cV σ α a kd (k + 1) m' j) → 0 ≤ x → x + r = nCh α a k → (∀ i, 0 ≤ i → i < x → cV σ α a kd k m i) → r < n → ∃ τ, lp_X0_weigh_16 kd k kx n σ x = kx τ ∧ (∀ i, 0 ≤ i → i < nCh α a k → cV τ α a kd k m i) ∧ ∀ o', (o' ≤ 70 + 6 * k ∨ 70 + 6 * k + 5 < o') → τ o' = σ o' := by
  intro r
  have w2 := hw.2.1.2.1
  have w3 := hw.1.2.1
  have n0 := nCh_r hw h0 (show k < α 0 1 by omega) (hf k h0 (by omega))
  induction r with
  | zero =>
    intro σ x n h hc hv hx h1 h2 hn
    obtain ⟨n, rfl⟩ : ∃ k, n = k + 1 := ⟨n - 1, by omega⟩
    have e1 := ((hc k h0 (by omega)).1 (hf k h0 (by omega))).1
    rw [lp_X0_weigh_16]
    exact ⟨σ, by simp (disch := omega) only [↓rdA_t, ↓wrA_t, ↓ixA_t, ↓wrF_d, ↓bd2_s, ↓bd1_s, ↓bnd_d, ↓iww_t, ↓iww_f, ↓iwl_t, ↓iwl_f, ↓ilw_t, ↓ilw_f, ↓eww_t, ↓eww_f, ↓ewl_t, ↓ewl_f, ↓ez_t, ↓ez_f, ↓il_t, ↓il_f, il_t, il_f, ez_t, ez_f, if_true, if_false, upS_h, upS_o, upS_i, Int.reduceAdd, Int.reduceSub, Int.reduceMul, Int.reduceNeg, wI_id], fun i i1 i2 => h2 i i1 (by omega), fun _ _ => rfl⟩
  | succ r ih =>
    intro σ x n h hc hv hx h1 h2 hn
    obtain ⟨n, rfl⟩ : ∃ k, n = k + 1 := ⟨n - 1, by omega⟩
    have e1 := ((hc k h0 (by omega)).1 (hf k h0 (by omega))).1
    obtain ⟨τ, g1, g2, g3, g4⟩ := c_entry h hw hf hkd h0 hk ⟨hx, by omega⟩ hc hv
    have sc : cW σ τ := fun o ho => g3 o (by omega)
    obtain ⟨ρ, f1, f2, f3⟩ := ih τ (x + 1) n (cW_I sc h) (fun q q1 q2 => cW_C sc (by omega) (hc q q1 q2)) (fun m' hm j j1 j2 => by
      have q := hv m' hm j j1 j2
      unfold cV cD at q ⊢
      rw [g3 (70 + 6 * (k + 1) + 1) (by omega), g3 (70 + 6 * (k + 1) + 2) (by omega), g3 (70 + 6 * (k + 1) + 3) (by omega), g3 (70 + 6 * (k + 1) + 4) (by omega), g3 (70 + 6 * (k + 1) + 5) (by omega)]
      exact q) (by omega) (by omega) (fun i i1 i2 => by
      by_cases c : i = x
      · subst c; exact g2
      · have q := h2 i i1 (by omega)
        unfold cV cD at q ⊢
        rw [g4 _ i c, g4 _ i c, g4 _ i c, g4 _ i c, g4 _ i c]
        exact q) (by omega)
    refine ⟨ρ, ?_, f2, fun o' ho => by rw [f3 o' ho, g3 o' ho]⟩
    rw [← f1, lp_X0_weigh_16]
    simp (disch := omega) only [↓rdA_t, ↓wrA_t, ↓ixA_t, ↓wrF_d, ↓bd2_s, ↓bd1_s, ↓bnd_d, ↓iww_t, ↓iww_f, ↓iwl_t, ↓iwl_f, ↓ilw_t, ↓ilw_f, ↓eww_t, ↓eww_f, ↓ewl_t, ↓ewl_f, ↓ez_t, ↓ez_f, ↓il_t, ↓il_f, il_t, il_f, ez_t, ez_f, if_true, if_false, upS_h, upS_o, upS_i, Int.reduceAdd, Int.reduceSub, Int.reduceMul, Int.reduceNeg, wI_id, g1]
theorem c_weigh_10 {α : St} {a kd : Int} (kx : St → Option (Int × St)) (hw : WF α) (hf : allF α a) (hkd : 0 ≤ kd ∧ kd ≤ 4) : ∀ (r : Nat) (σ : St) (k : Int) (n : Nat), IC σ α → (∀ q, 0 ≤ q → q < α 0 1 → cCh σ α a q) → k + 1 = r → k < α 0 1 → (∀ q, k < q → q < α 0 1 → ∀ i, 0 ≤ i → i < nCh α a q → cV σ α a kd q (α 0 1 - 1 - q).toNat i) → r < n → ∃ τ, lp_X0_weigh_10 kd kx n σ k = kx τ ∧ (∀ q, 0 ≤ q → q < α 0 1 → ∀ i, 0 ≤ i → i < nCh α a q → cV τ α a kd q (α 0 1 - 1 - q).toNat i) ∧ cW σ τ := by
  intro r
  have w2 := hw.2.1.2.1
  have w3 := hw.1.2.1
  induction r with
  | zero =>
    intro σ k n h hc h1 h2 hv hn
    obtain ⟨n, rfl⟩ : ∃ k, n = k + 1 := ⟨n - 1, by omega⟩
    rw [lp_X0_weigh_10]
    exact ⟨σ, by simp (disch := omega) only [↓rdA_t, ↓wrA_t, ↓ixA_t, ↓wrF_d, ↓bd2_s, ↓bd1_s, ↓bnd_d, ↓iww_t, ↓iww_f, ↓iwl_t, ↓iwl_f, ↓ilw_t, ↓ilw_f, ↓eww_t, ↓eww_f, ↓ewl_t, ↓ewl_f, ↓ez_t, ↓ez_f, ↓il_t, ↓il_f, il_t, il_f, ez_t, ez_f, if_true, if_false, upS_h, upS_o, upS_i, Int.reduceAdd, Int.reduceSub, Int.reduceMul, Int.reduceNeg, wI_id], fun q q1 q2 => hv q (by omega) q2, fun _ _ => rfl⟩
  | succ r ih =>
    intro σ k n h hc h1 h2 hv hn
    obtain ⟨n, rfl⟩ : ∃ k, n = k + 1 := ⟨n - 1, by omega⟩
    have n0 := nCh_r hw (show 0 ≤ k by omega) h2 (hf k (by omega) h2)
    obtain ⟨τ, g1, g2, g3⟩ := c_weigh_16 (α := α) (a := a) (kd := kd) (k := k) (m := (α 0 1 - 1 - k).toNat) (fun σ7 => lp_X0_weigh_10 kd kx n σ7 (k + (-1))) hw hf hkd (by omega) (by omega) (nCh α a k).toNat σ 0 1000 h hc (fun m' hm j j1 j2 => by
      have q := hv (k + 1) (by omega) (by omega) j j1 j2
      rw [show (α 0 1 - 1 - (k + 1)).toNat = m' by omega] at q
      exact q) (by omega) (by omega) (fun i i1 i2 => by omega) (by omega)
    have sc : cW σ τ := fun o ho => g3 o (by omega)
    obtain ⟨ρ, f1, f2, f3⟩ := ih τ (k + (-1)) n (cW_I sc h) (fun q q1 q2 => cW_C sc (by omega) (hc q q1 q2)) (by omega) (by omega) (fun q q1 q2 i i1 i2 => by
      by_cases c : q = k
      · subst c; exact g2 i i1 i2
      · have z := hv q (by omega) q2 i i1 i2
        unfold cV cD at z ⊢
        rw [g3 (70 + 6 * q + 1) (by omega), g3 (70 + 6 * q + 2) (by omega), g3 (70 + 6 * q + 3) (by omega), g3 (70 + 6 * q + 4) (by omega), g3 (70 + 6 * q + 5) (by omega)]
        exact z) (by omega)
    refine ⟨ρ, ?_, f2, cW_t sc f3⟩
    rw [← f1, lp_X0_weigh_10, ← g1]
    simp (disch := omega) only [↓rdA_t, ↓wrA_t, ↓ixA_t, ↓wrF_d, ↓bd2_s, ↓bd1_s, ↓bnd_d, ↓iww_t, ↓iww_f, ↓iwl_t, ↓iwl_f, ↓ilw_t, ↓ilw_f, ↓eww_t, ↓eww_f, ↓ewl_t, ↓ewl_f, ↓ez_t, ↓ez_f, ↓il_t, ↓il_f, il_t, il_f, ez_t, ez_f, if_true, if_false, upS_h, upS_o, upS_i, Int.reduceAdd, Int.reduceSub, Int.reduceMul, Int.reduceNeg, wI_id]
/-- the prices of whole chains -/
def tp (α : St) (a kd w : Int) : Int := fd (dp α a kd (α 0 1 - 1).toNat) (fun _ => 0) (nCh α a 0).toNat w
def tv (α : St) (a kd : Int) : Int := fv (dp α a kd (α 0 1 - 1).toNat) (fun _ => 0) (nCh α a 0).toNat
theorem tp_ok {α : St} {a kd : Int} (hw : WF α) (hf : allF α a) (hn : 0 < α 0 1) : okE 496 (tp α a kd 0) (tp α a kd 1) (tp α a kd 2) (tp α a kd 3) := by
  have w2 := hw.2.1.2.1
  have n0 := nCh_r hw (show (0 : Int) ≤ 0 by omega) hn (hf 0 (by omega) hn)
  refine (fd_ok (B := 480) (n := (nCh α a 0).toNat) (fun j hj => ?_) (fun j hj => by omega) (nCh α a 0).toNat (by omega)).2 (by omega)
  have q := dp_ok (kd := kd) hw hf (α 0 1 - 1).toNat 0 (by omega) (by omega) j (by omega)
  obtain ⟨o1, o2, o3, o4⟩ := q
  exact ⟨by omega, by omega, by omega, o4⟩
end
section
/-! ===== the component's whole chains ===== -/
theorem c_weigh_58 {α : St} {a kd : Int} (kx : St → Option (Int × St)) (hw : WF α) (hf : allF α a) (hn0 : 0 < α 0 1) : ∀ (r x : Nat) (σ : St) (n : Nat), cCh σ α a 0 → (∀ i, 0 ≤ i → i < nCh α a 0 → cV σ α a kd 0 (α 0 1 - 1).toNat i) → (x : Int) + r = nCh α a 0 → cE σ 57 0 0 (fd (dp α a kd (α 0 1 - 1).toNat) (fun _ => 0) x 0) (fd (dp α a kd (α 0 1 - 1).toNat) (fun _ => 0) x 1) (fd (dp α a kd (α 0 1 - 1).toNat) (fun _ => 0) x 2) (fd (dp α a kd (α 0 1 - 1).toNat) (fun _ => 0) x 3) (fv (dp α a kd (α 0 1 - 1).toNat) (fun _ => 0) x) → r < n → ∃ τ, lp_X0_weigh_58 kx n σ x = kx τ ∧ cE τ 57 0 0 (fd (dp α a kd (α 0 1 - 1).toNat) (fun _ => 0) (x + r) 0) (fd (dp α a kd (α 0 1 - 1).toNat) (fun _ => 0) (x + r) 1) (fd (dp α a kd (α 0 1 - 1).toNat) (fun _ => 0) (x + r) 2) (fd (dp α a kd (α 0 1 - 1).toNat) (fun _ => 0) (x + r) 3) (fv (dp α a kd (α 0 1 - 1).toNat) (fun _ => 0) (x + r)) ∧ ∀ o', (o' ≤ 57 ∨ 62 < o') → τ o' = σ o' := by
  intro r
  have w2 := hw.2.1.2.1
  have w3 := hw.1.2.1
  have n0 := nCh_r hw (show (0 : Int) ≤ 0 by omega) hn0 (hf 0 (by omega) hn0)
  have hDr : ∀ j : Nat, j < (nCh α a 0).toNat → okE 480 (dp α a kd (α 0 1 - 1).toNat 0 j) (dp α a kd (α 0 1 - 1).toNat 1 j) (dp α a kd (α 0 1 - 1).toNat 2 j) (dp α a kd (α 0 1 - 1).toNat 3 j) := fun j hj => by
    have q := dp_ok (kd := kd) hw hf (α 0 1 - 1).toNat 0 (by omega) (by omega) j (by omega)
    obtain ⟨o1, o2, o3, o4⟩ := q
    exact ⟨by omega, by omega, by omega, o4⟩
  induction r with
  | zero =>
    intro x σ n hc hv h1 hE hn
    obtain ⟨n, rfl⟩ : ∃ k, n = k + 1 := ⟨n - 1, by omega⟩
    have e1 := (hc.1 (hf 0 (by omega) hn0)).1
    simp only [Int.reduceMul, Int.reduceAdd] at e1
    rw [lp_X0_weigh_58]
    exact ⟨σ, by simp (disch := omega) only [↓rdA_t, ↓wrA_t, ↓ixA_t, ↓wrF_d, ↓bd2_s, ↓bd1_s, ↓bnd_d, ↓iww_t, ↓iww_f, ↓iwl_t, ↓iwl_f, ↓ilw_t, ↓ilw_f, ↓eww_t, ↓eww_f, ↓ewl_t, ↓ewl_f, ↓ez_t, ↓ez_f, ↓il_t, ↓il_f, il_t, il_f, ez_t, ez_f, if_true, if_false, upS_h, upS_o, upS_i, Int.reduceAdd, Int.reduceSub, Int.reduceMul, Int.reduceNeg, wI_id], hE, fun _ _ => rfl⟩
  | succ r ih =>
    intro x σ n hc hv h1 hE hn
    obtain ⟨n, rfl⟩ : ∃ k, n = k + 1 := ⟨n - 1, by omega⟩
    have e1 := (hc.1 (hf 0 (by omega) hn0)).1
    simp only [Int.reduceMul, Int.reduceAdd] at e1
    have okf := (fd_ok (jt := fun _ => 0) hDr (fun j hj => by omega) x (by omega)).1
    have oke := hDr x (by omega)
    have oke' : okE (480 + 16) (dp α a kd (α 0 1 - 1).toNat 0 x) (dp α a kd (α 0 1 - 1).toNat 1 x) (dp α a kd (α 0 1 - 1).toNat 2 x) (dp α a kd (α 0 1 - 1).toNat 3 x) := by
      obtain ⟨o1, o2, o3, o4⟩ := oke
      exact ⟨by omega, by omega, by omega, o4⟩
    obtain ⟨τ, g1, g2, g3, g4⟩ := c_offer (t := 0) (B := 480 + 16) hE (hv x (by omega) (by omega)).1 (by omega) okf oke' (by omega) (by omega) (by omega) (fun z z1 z2 => by rw [uv_1 (by omega)]; omega) (fun z z1 z2 => by rw [uv_40 (by omega)]; omega) (by omega)
    simp only [Int.reduceMul, Int.reduceAdd] at g1
    obtain ⟨ρ, f1, f2, f3⟩ := ih (x + 1) τ n (by
      unfold cCh at hc ⊢
      rw [g3 (38 + 2 * 0) (by omega), g3 (38 + 2 * 0 + 1) (by omega)]
      exact hc) (fun i i1 i2 => by
      have q := hv i i1 i2
      unfold cV cD at q ⊢
      rw [g3 (70 + 6 * 0 + 1) (by omega), g3 (70 + 6 * 0 + 2) (by omega), g3 (70 + 6 * 0 + 3) (by omega), g3 (70 + 6 * 0 + 4) (by omega), g3 (70 + 6 * 0 + 5) (by omega)]
      exact q) (by omega) g2 (by omega)
    rw [show x + 1 + r = x + (r + 1) by omega] at f2
    rw [show ((x + 1 : Nat) : Int) = (x : Int) + 1 by omega] at f1
    refine ⟨ρ, ?_, f2, fun o' ho => by rw [f3 o' ho, g3 o' (by omega)]⟩
    rw [← f1, lp_X0_weigh_58]
    simp (disch := omega) only [↓rdA_t, ↓wrA_t, ↓ixA_t, ↓wrF_d, ↓bd2_s, ↓bd1_s, ↓bnd_d, ↓iww_t, ↓iww_f, ↓iwl_t, ↓iwl_f, ↓ilw_t, ↓ilw_f, ↓eww_t, ↓eww_f, ↓ewl_t, ↓ewl_f, ↓ez_t, ↓ez_f, ↓il_t, ↓il_f, il_t, il_f, ez_t, ez_f, if_true, if_false, upS_h, upS_o, upS_i, Int.reduceAdd, Int.reduceSub, Int.reduceMul, Int.reduceNeg, wI_id, g1]
theorem c_weigh {σ α : St} {a kd : Int} (h : IC σ α) (hw : WF α) (hf : allF α a) (hn0 : 0 < α 0 1) (hkd : 0 ≤ kd ∧ kd ≤ 4) (hc : ∀ q, 0 ≤ q → q < α 0 1 → cCh σ α a q) : ∃ τ, f_X0_weigh σ kd = some (0, τ) ∧ (∀ q, 0 ≤ q → q < α 0 1 → ∀ i, 0 ≤ i → i < nCh α a q → cV τ α a kd q (α 0 1 - 1 - q).toNat i) ∧ (τ 58 0 = tp α a kd 0 ∧ τ 59 0 = far 0 (tp α a kd 1) ∧ τ 60 0 = tp α a kd 2 ∧ τ 61 0 = tp α a kd 3 ∧ τ 62 0 = tv α a kd) ∧ cW σ τ := by
  have w2 := hw.2.1.2.1
  have hs := h.2.1.1
  have n0 := nCh_r hw (show (0 : Int) ≤ 0 by omega) hn0 (hf 0 (by omega) hn0)
  have w3 := hw.1.2.1
  obtain ⟨τ, g1, g2, g3⟩ := c_weigh_10 (α := α) (a := a) (kd := kd) (fun σ8 => bd2 (f_X5_begin σ8 57 0) fun v9 σ10 => lp_X0_weigh_58 (fun σ16 => some (0, σ16)) 1000 σ10 0) hw hf hkd (α 0 1).toNat σ (α 0 1 - 1) 1000 h hc (by omega) (by omega) (fun q q1 q2 => by omega) (by omega)
  have eb : ∃ ρ, f_X5_begin τ 57 0 = some (0, ρ) ∧ cE ρ 57 0 0 (-1) (-1) (-1) 0 0 ∧ ∀ o', (o' ≤ 57 ∨ 62 < o') → ρ o' = τ o' := by
    unfold f_X5_begin
    simp only [Int.reduceAdd]
    rw [uv_1 (by omega), uv_1 (by omega), uv_1 (by omega), uv_1 (by omega), uv_1 (by omega)]
    simp (disch := omega) only [↓rdA_t, ↓wrA_t, ↓ixA_t, ↓wrF_d, ↓bd2_s, ↓bd1_s, ↓bnd_d, ↓iww_t, ↓iww_f, ↓iwl_t, ↓iwl_f, ↓ilw_t, ↓ilw_f, ↓eww_t, ↓eww_f, ↓ewl_t, ↓ewl_f, ↓ez_t, ↓ez_f, ↓il_t, ↓il_f, il_t, il_f, ez_t, ez_f, if_true, if_false, upS_h, upS_o, upS_i, Int.reduceAdd, Int.reduceSub, Int.reduceMul, Int.reduceNeg, wI_id]
    exact ⟨_, rfl, ⟨by simp (disch := omega) only [upS_h, upS_o, upS_i, Int.reduceAdd, Int.reduceSub, Int.reduceMul, Int.reduceNeg]; rfl, by simp (disch := omega) only [upS_h, upS_o, upS_i, Int.reduceAdd, Int.reduceSub, Int.reduceMul, Int.reduceNeg]; rfl, by simp (disch := omega) only [upS_h, upS_o, upS_i, Int.reduceAdd, Int.reduceSub, Int.reduceMul, Int.reduceNeg]; rfl, by simp (disch := omega) only [upS_h, upS_o, upS_i, Int.reduceAdd, Int.reduceSub, Int.reduceMul, Int.reduceNeg], by simp (disch := omega) only [upS_h, upS_o, upS_i, Int.reduceAdd, Int.reduceSub, Int.reduceMul, Int.reduceNeg]⟩, fun o' ho => by rw [upS_of (by omega), upS_of (by omega), upS_of (by omega), upS_of (by omega), upS_of (by omega)]⟩
  obtain ⟨ρ, b1, b2, b3⟩ := eb
  have lev : ∀ {ξ : St}, (∀ o', (o' ≤ 57 ∨ 62 < o') → ξ o' = τ o') → ∀ q, 0 ≤ q → q < α 0 1 → ∀ i, 0 ≤ i → i < nCh α a q → cV ξ α a kd q (α 0 1 - 1 - q).toNat i := fun hx q q1 q2 i i1 i2 => by
    have z := g2 q q1 q2 i i1 i2
    unfold cV cD at z ⊢
    rw [hx (70 + 6 * q + 1) (by omega), hx (70 + 6 * q + 2) (by omega), hx (70 + 6 * q + 3) (by omega), hx (70 + 6 * q + 4) (by omega), hx (70 + 6 * q + 5) (by omega)]
    exact z
  have sc1 : cW σ ρ := cW_t g3 (fun o ho => b3 o (by omega))
  obtain ⟨ξ, f1, f2, f3⟩ := c_weigh_58 (α := α) (a := a) (kd := kd) (fun σ16 => some (0, σ16)) hw hf hn0 (nCh α a 0).toNat 0 ρ 1000 (cW_C sc1 (by omega) (hc 0 (by omega) hn0)) (fun i i1 i2 => by
    have q := lev b3 0 (by omega) hn0 i i1 i2
    rw [show (α 0 1 - 1 - 0).toNat = (α 0 1 - 1).toNat by omega] at q
    exact q) (by omega) b2 (by omega)
  rw [Nat.zero_add] at f2
  have ok := tp_ok (kd := kd) hw hf hn0
  obtain ⟨k1, k2, k3, k4, k5⟩ := f2
  have e0 : fd (dp α a kd (α 0 1 - 1).toNat) (fun _ => 0) (nCh α a 0).toNat 0 = tp α a kd 0 := rfl
  rw [e0] at k1 k3
  have nb : ¬ tp α a kd 0 = -1 := by have := ok.1; omega
  refine ⟨ξ, ?_, lev (fun o' ho => by rw [f3 o' ho, b3 o' ho]), ⟨?_, k2, ?_, k4, k5⟩, cW_t sc1 (fun o ho => f3 o (by omega))⟩
  · have e0 : (((0 : Nat)) : Int) = 0 := rfl
    rw [e0] at f1
    have eK : (bd2 (f_X5_begin τ 57 0) fun v9 σ10 => lp_X0_weigh_58 (fun σ16 => some (0, σ16)) 1000 σ10 0) = some (0, ξ) := by rw [b1, bd2_s, f1]
    unfold f_X0_weigh
    rw [bnd_d, hs, g1]
    exact eK
  · have : ξ (57 + 1) 0 = 0 + tp α a kd 0 := by rw [k1]; exact if_neg nb
    rw [Int.zero_add] at this
    exact this
  · have : ξ (57 + 3) 0 = 0 + fd (dp α a kd (α 0 1 - 1).toNat) (fun _ => 0) (nCh α a 0).toNat 2 := by rw [k3]; exact if_neg nb
    rw [Int.zero_add] at this
    exact this
/-! the path -/
theorem fv_r {D : Int → Int → Int} {jt : Int → Int} : ∀ j : Nat, 0 < j → 0 ≤ fv D jt j ∧ fv D jt j < j := by
  intro j
  induction j with
  | zero => intro h; omega
  | succ j ih =>
    intro _
    rw [fv]
    by_cases c : fd D jt j 0 = -1 ∨ D 0 j + jt j < fd D jt j 0
    · rw [if_pos c]; omega
    · rw [if_neg c]
      by_cases c2 : j = 0
      · subst c2; exact absurd (Or.inl rfl) c
      · have := ih (by omega); omega
/-- the entries of the cheapest chain, the first where several are -/
def ixs (α : St) (a kd : Int) : Nat → Int
  | 0 => tv α a kd
  | k + 1 => via α a kd (α 0 1 - 1 - (k : Nat)).toNat (ixs α a kd k)
def pth (α : St) (a kd k : Int) : Int := uCh α a k (ixs α a kd k.toNat)
theorem ixs_r {α : St} {a kd : Int} (hw : WF α) (hf : allF α a) : ∀ k : Nat, (k : Int) < α 0 1 → 0 ≤ ixs α a kd k ∧ ixs α a kd k < nCh α a k := by
  intro k
  cases k with
  | zero =>
    intro h
    have n0 := nCh_r hw (show (0 : Int) ≤ 0 by omega) h (hf 0 (by omega) h)
    have r := fv_r (D := dp α a kd (α 0 1 - 1).toNat) (jt := fun _ => 0) (nCh α a 0).toNat (by omega)
    rw [ixs]
    unfold tv
    exact ⟨r.1, by have := r.2; simp only [Int.natCast_zero]; omega⟩
  | succ k =>
    intro h
    have n0 := nCh_r hw (show (0 : Int) ≤ ((k + 1 : Nat) : Int) by omega) h (hf _ (by omega) h)
    rw [ixs]
    obtain ⟨m, hm⟩ : ∃ m : Nat, (α 0 1 - 1 - (k : Nat)).toNat = m + 1 := ⟨(α 0 1 - 1 - (k : Nat)).toNat - 1, by omega⟩
    rw [hm, via]
    have e : α 0 1 - 1 - ((m + 1 : Nat) : Int) + 1 = ((k + 1 : Nat) : Int) := by omega
    rw [e]
    have r := fv_r (D := dp α a kd m) (jt := jnt α a (α 0 1 - 1 - ((m + 1 : Nat) : Int)) (ixs α a kd k)) (nCh α a ((k + 1 : Nat) : Int)).toNat (by omega)
    exact ⟨r.1, by omega⟩
theorem c_trace_g {α : St} {a kd : Int} (kx : St → Option (Int × St)) (hw : WF α) (hf : allF α a) : ∀ (r x : Nat) (σ : St) (n : Nat), IC σ α → (∀ q, 0 ≤ q → q < α 0 1 → cCh σ α a q) → (∀ q, 0 ≤ q → q < α 0 1 → ∀ i, 0 ≤ i → i < nCh α a q → cV σ α a kd q (α 0 1 - 1 - q).toNat i) → (x : Int) + r = α 0 1 → (∀ k : Int, 0 ≤ k → k < x → σ 69 k = pth α a kd k) → r < n → ∃ τ, lp_X0_trace_12 kx n σ (ixs α a kd x) x = kx τ ∧ (∀ k, 0 ≤ k → k < α 0 1 → τ 69 k = pth α a kd k) ∧ ∀ o, ¬ o = 69 → τ o = σ o := by
  intro r
  have w2 := hw.2.1.2.1
  have w3 := hw.1.2.1
  induction r with
  | zero =>
    intro x σ n h hc hv h1 hp hn
    obtain ⟨n, rfl⟩ : ∃ k, n = k + 1 := ⟨n - 1, by omega⟩
    have hs := h.2.1.1
    rw [lp_X0_trace_12]
    exact ⟨σ, by simp (disch := omega) only [↓rdA_t, ↓wrA_t, ↓ixA_t, ↓wrF_d, ↓bd2_s, ↓bd1_s, ↓bnd_d, ↓iww_t, ↓iww_f, ↓iwl_t, ↓iwl_f, ↓ilw_t, ↓ilw_f, ↓eww_t, ↓eww_f, ↓ewl_t, ↓ewl_f, ↓ez_t, ↓ez_f, ↓il_t, ↓il_f, il_t, il_f, ez_t, ez_f, if_true, if_false, upS_h, upS_o, upS_i, Int.reduceAdd, Int.reduceSub, Int.reduceMul, Int.reduceNeg, wI_id], fun k k1 k2 => hp k k1 (by omega), fun _ _ => rfl⟩
  | succ r ih =>
    intro x σ n h hc hv h1 hp hn
    obtain ⟨n, rfl⟩ : ∃ k, n = k + 1 := ⟨n - 1, by omega⟩
    have hs := h.2.1.1
    have ir := ixs_r (kd := kd) hw hf x (by omega)
    have n0 := nCh_r hw (show (0 : Int) ≤ (x : Int) by omega) (by omega) (hf x (by omega) (by omega))
    obtain ⟨e1, e2, e3⟩ := (hc x (by omega) (by omega)).1 (hf x (by omega) (by omega))
    have e4 := e3 (ixs α a kd x) ir.1 ir.2
    have e5 := (hv x (by omega) (by omega) (ixs α a kd x) ir.1 ir.2).2
    have ep : pth α a kd x = uCh α a x (ixs α a kd x) := by unfold pth; rw [show ((x : Int)).toNat = x by omega]
    have ei : ixs α a kd (x + 1) = via α a kd (α 0 1 - 1 - (x : Nat)).toNat (ixs α a kd x) := rfl
    obtain ⟨τ, g1, g2, g3⟩ := ih (x + 1) (upS σ 69 x (pth α a kd x)) n (IC_scr (fun o ho i _ => upS_o (by omega)) h) (fun q q1 q2 => by
      have z := hc q q1 q2
      unfold cCh at z ⊢
      rw [upS_of (show ¬ 38 + 2 * q = 69 by omega), upS_of (show ¬ 38 + 2 * q + 1 = 69 by omega)]
      exact z) (fun q q1 q2 i i1 i2 => by
      have z := hv q q1 q2 i i1 i2
      unfold cV cD at z ⊢
      rw [upS_of (show ¬ 70 + 6 * q + 1 = 69 by omega), upS_of (show ¬ 70 + 6 * q + 2 = 69 by omega), upS_of (show ¬ 70 + 6 * q + 3 = 69 by omega), upS_of (show ¬ 70 + 6 * q + 4 = 69 by omega), upS_of (show ¬ 70 + 6 * q + 5 = 69 by omega)]
      exact z) (by omega) (fun k k1 k2 => by
      by_cases c : k = x
      · subst c; exact upS_h ⟨rfl, rfl⟩
      · rw [upS_i c]; exact hp k k1 (by omega)) (by omega)
    rw [show ((x + 1 : Nat) : Int) = (x : Int) + 1 by omega] at g1
    refine ⟨τ, ?_, g2, fun o ho => by rw [g3 o ho, upS_of ho]⟩
    rw [← g1, lp_X0_trace_12, uv_40 (by omega), ei, ep]
    simp (disch := omega) only [↓rdA_t, ↓wrA_t, ↓ixA_t, ↓wrF_d, ↓bd2_s, ↓bd1_s, ↓bnd_d, ↓iww_t, ↓iww_f, ↓iwl_t, ↓iwl_f, ↓ilw_t, ↓ilw_f, ↓eww_t, ↓eww_f, ↓ewl_t, ↓ewl_f, ↓ez_t, ↓ez_f, ↓il_t, ↓il_f, il_t, il_f, ez_t, ez_f, if_true, if_false, upS_h, upS_o, upS_i, Int.reduceAdd, Int.reduceSub, Int.reduceMul, Int.reduceNeg, wI_id, e1, e4, e5]
end
section
/-! ===== the component's answers about chains ===== -/
def allI (α : St) (a : Int) : Nat → Int
  | 0 => 1
  | m + 1 => if (rnS α a m).1 = 1 then allI α a m else 0
def has (α : St) (a : Int) : Int := if 0 < α 0 1 then allI α a (α 0 1).toNat else 0
theorem allI_p {α : St} {a : Int} : ∀ m : Nat, (allI α a m = 1 ∧ ∀ k : Nat, k < m → (rnS α a k).1 = 1) ∨ (allI α a m = 0 ∧ ∃ k : Nat, k < m ∧ ¬ (rnS α a k).1 = 1) := by
  intro m
  induction m with
  | zero => left; exact ⟨rfl, fun k hk => by omega⟩
  | succ m ih =>
    rw [allI]
    by_cases c : (rnS α a m).1 = 1
    · rw [if_pos c]
      rcases ih with ⟨h1, h2⟩ | ⟨h1, k, h2, h3⟩
      · left
        refine ⟨h1, fun k hk => ?_⟩
        by_cases c2 : k = m
        · rw [c2]; exact c
        · exact h2 k (by omega)
      · right; exact ⟨h1, k, by omega, h3⟩
    · rw [if_neg c]
      right; exact ⟨rfl, m, by omega, c⟩
theorem has_1 {α : St} {a : Int} (h : 0 < α 0 1 ∧ allF α a) : has α a = 1 := by
  unfold has
  rw [if_pos h.1]
  rcases allI_p (α := α) (a := a) (α 0 1).toNat with ⟨h1, _⟩ | ⟨_, k, h2, h3⟩
  · exact h1
  · exact absurd (h.2 k (by omega) (by omega)) h3
theorem has_0 {α : St} {a : Int} (h : ¬ (0 < α 0 1 ∧ allF α a)) : has α a = 0 := by
  unfold has
  by_cases c : 0 < α 0 1
  · rw [if_pos c]
    rcases allI_p (α := α) (a := a) (α 0 1).toNat with ⟨_, h2⟩ | ⟨h1, _⟩
    · exfalso
      apply h
      refine ⟨c, fun k k1 k2 => ?_⟩
      have := h2 k.toNat (by omega)
      rw [show ((k.toNat : Nat) : Int) = k by omega] at this
      exact this
    · exact h1
  · rw [if_neg c]
/-- the component's chains stand -/
def cFd (τ α : St) (a kd : Int) : Prop := (τ 58 0 = tp α a kd 0 ∧ τ 59 0 = far 0 (tp α a kd 1) ∧ τ 60 0 = tp α a kd 2 ∧ τ 61 0 = tp α a kd 3) ∧ ∀ k, 0 ≤ k → k < α 0 1 → τ 69 k = pth α a kd k
theorem c_find {σ α : St} {a : Int} (h : IC σ α) (hw : WF α) (ha : -1 ≤ a ∧ a < 40) : ((0 < α 0 1 ∧ allF α a) ∧ ∃ τ, f_X9_findChain σ a = some (1, τ) ∧ IC τ α ∧ cFd τ α a (α 0 2) ∧ ∀ o, 118 ≤ o → τ o = σ o) ∨ (¬ (0 < α 0 1 ∧ allF α a) ∧ ∃ τ, f_X9_findChain σ a = some (0, τ) ∧ IC τ α ∧ ∀ o, 118 ≤ o → τ o = σ o) := by
  have w2 := hw.2.1.2.1
  unfold f_X9_findChain
  rcases c_all h hw ha with ⟨b1, τ, b2, b3, b4, b5⟩ | ⟨b1, τ, b2, b3, b4⟩
  · left
    have hkd := hw.2.2.1.1
    obtain ⟨ρ, g1, g2, g3, g4⟩ := c_weigh b3 hw b1.2 b1.1 hkd b4
    have hI := cW_I g4 b3
    obtain ⟨ξ, f1, f2, f3⟩ := c_trace_g (α := α) (a := a) (kd := α 0 2) (fun σ10 => some (0, σ10)) hw b1.2 (α 0 1).toNat 0 ρ 1000 hI (fun q q1 q2 => cW_C g4 (by omega) (b4 q q1 q2)) g2 (by omega) (fun k k1 k2 => by omega) (by omega)
    have e0 : (((0 : Nat)) : Int) = 0 := rfl
    have e1 : ixs α a (α 0 2) 0 = tv α a (α 0 2) := rfl
    rw [e0, e1] at f1
    have et : f_X0_trace ρ = some (0, ξ) := by
      unfold f_X0_trace
      simp (disch := omega) only [↓rdA_t, ↓wrA_t, ↓ixA_t, ↓wrF_d, ↓bd2_s, ↓bd1_s, ↓bnd_d, ↓iww_t, ↓iww_f, ↓iwl_t, ↓iwl_f, ↓ilw_t, ↓ilw_f, ↓eww_t, ↓eww_f, ↓ewl_t, ↓ewl_f, ↓ez_t, ↓ez_f, ↓il_t, ↓il_f, il_t, il_f, ez_t, ez_f, if_true, if_false, upS_h, upS_o, upS_i, Int.reduceAdd, Int.reduceSub, Int.reduceMul, Int.reduceNeg, wI_id, g3.2.2.2.2]
      exact f1
    have ek := b3.2.2.1.1
    refine ⟨b1, ξ, ?_, IC_scr (fun o ho i _ => by rw [f3 o (by omega)]) hI, ⟨⟨?_, ?_, ?_, ?_⟩, f2⟩, fun o ho => by rw [f3 o (by omega), g4 o (by omega), b5 o (by omega)]⟩
    · simp (disch := omega) only [↓rdA_t, ↓wrA_t, ↓ixA_t, ↓wrF_d, ↓bd2_s, ↓bd1_s, ↓bnd_d, ↓iww_t, ↓iww_f, ↓iwl_t, ↓iwl_f, ↓ilw_t, ↓ilw_f, ↓eww_t, ↓eww_f, ↓ewl_t, ↓ewl_f, ↓ez_t, ↓ez_f, ↓il_t, ↓il_f, il_t, il_f, ez_t, ez_f, if_true, if_false, upS_h, upS_o, upS_i, Int.reduceAdd, Int.reduceSub, Int.reduceMul, Int.reduceNeg, wI_id, b2, ek, g1, et]
    · rw [f3 58 (by omega)]; exact g3.1
    · rw [f3 59 (by omega)]; exact g3.2.1
    · rw [f3 60 (by omega)]; exact g3.2.2.1
    · rw [f3 61 (by omega)]; exact g3.2.2.2.1
  · right
    refine ⟨b1, τ, ?_, b3, fun o ho => b4 o (by omega)⟩
    simp (disch := omega) only [↓rdA_t, ↓wrA_t, ↓ixA_t, ↓wrF_d, ↓bd2_s, ↓bd1_s, ↓bnd_d, ↓iww_t, ↓iww_f, ↓iwl_t, ↓iwl_f, ↓ilw_t, ↓ilw_f, ↓eww_t, ↓eww_f, ↓ewl_t, ↓ewl_f, ↓ez_t, ↓ez_f, ↓il_t, ↓il_f, il_t, il_f, ez_t, ez_f, if_true, if_false, upS_h, upS_o, upS_i, Int.reduceAdd, Int.reduceSub, Int.reduceMul, Int.reduceNeg, wI_id, b2]
end
section
/-! ===== the reference takes an entry in ===== -/
theorem m_offers {σ : St} {v b s : Int} (hb : σ 118 34 = b) (hs : σ 118 35 = s) (h1 : -1 ≤ b ∧ b ≤ 2000000) (h2 : -1 ≤ s ∧ s ≤ 2000000) (h3 : 0 ≤ v ∧ v ≤ 2000000) : ∃ τ, f_X10_offers σ v = some (0, τ) ∧ τ 118 34 = oB b v ∧ τ 118 35 = oS b s v ∧ (∀ o, ¬ o = 118 → τ o = σ o) ∧ ∀ i, ¬ i = 34 → ¬ i = 35 → τ 118 i = σ 118 i := by
  unfold f_X10_offers oB oS
  by_cases c1 : b = -1
  · simp (disch := omega) only [↓rdA_t, ↓wrA_t, ↓ixA_t, ↓wrF_d, ↓bd2_s, ↓bd1_s, ↓bnd_d, ↓iww_t, ↓iww_f, ↓iwl_t, ↓iwl_f, ↓ilw_t, ↓ilw_f, ↓eww_t, ↓eww_f, ↓ewl_t, ↓ewl_f, ↓ez_t, ↓ez_f, ↓il_t, ↓il_f, il_t, il_f, ez_t, ez_f, if_true, if_false, upS_h, upS_o, upS_i, Int.reduceAdd, Int.reduceSub, Int.reduceMul, Int.reduceNeg, wI_id, hb]
    exact ⟨_, rfl, by simp (disch := omega) only [upS_h, upS_o, upS_i, Int.reduceAdd, Int.reduceSub, Int.reduceMul, Int.reduceNeg], by simp (disch := omega) only [upS_h, upS_o, upS_i, Int.reduceAdd, Int.reduceSub, Int.reduceMul, Int.reduceNeg], fun o ho => by rw [upS_of ho, upS_of ho], fun i i1 i2 => by rw [upS_i i1, upS_i i2]⟩
  · by_cases c2 : v < b
    · simp (disch := omega) only [↓rdA_t, ↓wrA_t, ↓ixA_t, ↓wrF_d, ↓bd2_s, ↓bd1_s, ↓bnd_d, ↓iww_t, ↓iww_f, ↓iwl_t, ↓iwl_f, ↓ilw_t, ↓ilw_f, ↓eww_t, ↓eww_f, ↓ewl_t, ↓ewl_f, ↓ez_t, ↓ez_f, ↓il_t, ↓il_f, il_t, il_f, ez_t, ez_f, if_true, if_false, upS_h, upS_o, upS_i, Int.reduceAdd, Int.reduceSub, Int.reduceMul, Int.reduceNeg, wI_id, hb]
      exact ⟨_, rfl, by simp (disch := omega) only [upS_h, upS_o, upS_i, Int.reduceAdd, Int.reduceSub, Int.reduceMul, Int.reduceNeg], by simp (disch := omega) only [upS_h, upS_o, upS_i, Int.reduceAdd, Int.reduceSub, Int.reduceMul, Int.reduceNeg], fun o ho => by rw [upS_of ho, upS_of ho], fun i i1 i2 => by rw [upS_i i1, upS_i i2]⟩
    · by_cases c3 : s = -1
      · simp (disch := omega) only [↓rdA_t, ↓wrA_t, ↓ixA_t, ↓wrF_d, ↓bd2_s, ↓bd1_s, ↓bnd_d, ↓iww_t, ↓iww_f, ↓iwl_t, ↓iwl_f, ↓ilw_t, ↓ilw_f, ↓eww_t, ↓eww_f, ↓ewl_t, ↓ewl_f, ↓ez_t, ↓ez_f, ↓il_t, ↓il_f, il_t, il_f, ez_t, ez_f, if_true, if_false, upS_h, upS_o, upS_i, Int.reduceAdd, Int.reduceSub, Int.reduceMul, Int.reduceNeg, wI_id, hb, hs]
        exact ⟨_, rfl, by simp (disch := omega) only [upS_h, upS_o, upS_i, Int.reduceAdd, Int.reduceSub, Int.reduceMul, Int.reduceNeg]; exact hb, by simp (disch := omega) only [upS_h, upS_o, upS_i, Int.reduceAdd, Int.reduceSub, Int.reduceMul, Int.reduceNeg], fun o ho => by rw [upS_of ho], fun i i1 i2 => by rw [upS_i i2]⟩
      · by_cases c4 : v < s
        · simp (disch := omega) only [↓rdA_t, ↓wrA_t, ↓ixA_t, ↓wrF_d, ↓bd2_s, ↓bd1_s, ↓bnd_d, ↓iww_t, ↓iww_f, ↓iwl_t, ↓iwl_f, ↓ilw_t, ↓ilw_f, ↓eww_t, ↓eww_f, ↓ewl_t, ↓ewl_f, ↓ez_t, ↓ez_f, ↓il_t, ↓il_f, il_t, il_f, ez_t, ez_f, if_true, if_false, upS_h, upS_o, upS_i, Int.reduceAdd, Int.reduceSub, Int.reduceMul, Int.reduceNeg, wI_id, hb, hs]
          exact ⟨_, rfl, by simp (disch := omega) only [upS_h, upS_o, upS_i, Int.reduceAdd, Int.reduceSub, Int.reduceMul, Int.reduceNeg]; exact hb, by simp (disch := omega) only [upS_h, upS_o, upS_i, Int.reduceAdd, Int.reduceSub, Int.reduceMul, Int.reduceNeg], fun o ho => by rw [upS_of ho], fun i i1 i2 => by rw [upS_i i2]⟩
        · simp (disch := omega) only [↓rdA_t, ↓wrA_t, ↓ixA_t, ↓wrF_d, ↓bd2_s, ↓bd1_s, ↓bnd_d, ↓iww_t, ↓iww_f, ↓iwl_t, ↓iwl_f, ↓ilw_t, ↓ilw_f, ↓eww_t, ↓eww_f, ↓ewl_t, ↓ewl_f, ↓ez_t, ↓ez_f, ↓il_t, ↓il_f, il_t, il_f, ez_t, ez_f, if_true, if_false, upS_h, upS_o, upS_i, Int.reduceAdd, Int.reduceSub, Int.reduceMul, Int.reduceNeg, wI_id, hb, hs]
          exact ⟨σ, rfl, hb, hs, fun _ _ => rfl, fun _ _ _ => rfl⟩
theorem cmp_cap {z : Int} (h : 0 ≤ z ∧ z ≤ 4000000000) : cmpL z 1000000000 = if 1000000000 < z then 1 else if z = 1000000000 then 0 else -1 := by
  unfold cmpL
  rw [wL_id (x := z) (by omega) (by omega), wL_id (x := 1000000000) (by omega) (by omega)]
theorem m_118 {σ : St} {e t t0 x m : Int} (he : 0 ≤ e ∧ e < 320) (hx : σ 118 36 = x) (hm : σ 139 e = m) (h1 : -1 ≤ x ∧ x ≤ 2000000) (h2 : 0 ≤ m ∧ m ≤ 1000000) (h3 : 0 ≤ t ∧ t ≤ 1000) : ∃ τ, jn_X10_takesIn_118 σ e t t0 = some (0, τ) ∧ τ 118 37 = t0 ∧ τ 118 36 = tX x m t ∧ (∀ o, ¬ o = 118 → τ o = σ o) ∧ ∀ i, ¬ i = 36 → ¬ i = 37 → τ 118 i = σ 118 i := by
  unfold jn_X10_takesIn_118 tX
  by_cases c : x < m + t
  · simp (disch := omega) only [↓rdA_t, ↓wrA_t, ↓ixA_t, ↓wrF_d, ↓bd2_s, ↓bd1_s, ↓bnd_d, ↓iww_t, ↓iww_f, ↓iwl_t, ↓iwl_f, ↓ilw_t, ↓ilw_f, ↓eww_t, ↓eww_f, ↓ewl_t, ↓ewl_f, ↓ez_t, ↓ez_f, ↓il_t, ↓il_f, il_t, il_f, ez_t, ez_f, if_true, if_false, upS_h, upS_o, upS_i, Int.reduceAdd, Int.reduceSub, Int.reduceMul, Int.reduceNeg, wI_id, hx, hm]
    exact ⟨_, rfl, by simp (disch := omega) only [upS_h, upS_o, upS_i, Int.reduceAdd, Int.reduceSub, Int.reduceMul, Int.reduceNeg], by simp (disch := omega) only [upS_h, upS_o, upS_i, Int.reduceAdd, Int.reduceSub, Int.reduceMul, Int.reduceNeg], fun o ho => by rw [upS_of ho, upS_of ho], fun i i1 i2 => by rw [upS_i i1, upS_i i2]⟩
  · simp (disch := omega) only [↓rdA_t, ↓wrA_t, ↓ixA_t, ↓wrF_d, ↓bd2_s, ↓bd1_s, ↓bnd_d, ↓iww_t, ↓iww_f, ↓iwl_t, ↓iwl_f, ↓ilw_t, ↓ilw_f, ↓eww_t, ↓eww_f, ↓ewl_t, ↓ewl_f, ↓ez_t, ↓ez_f, ↓il_t, ↓il_f, il_t, il_f, ez_t, ez_f, if_true, if_false, upS_h, upS_o, upS_i, Int.reduceAdd, Int.reduceSub, Int.reduceMul, Int.reduceNeg, wI_id, hx, hm]
    exact ⟨_, rfl, by simp (disch := omega) only [upS_h, upS_o, upS_i, Int.reduceAdd, Int.reduceSub, Int.reduceMul, Int.reduceNeg], by simp (disch := omega) only [upS_h, upS_o, upS_i, Int.reduceAdd, Int.reduceSub, Int.reduceMul, Int.reduceNeg], fun o ho => by rw [upS_of ho, upS_of ho], fun i i1 i2 => by rw [upS_i i1, upS_i i2]⟩
theorem m_84 {σ : St} {e t z x m y : Int} (he : 0 ≤ e ∧ e < 320) (hx : σ 118 36 = x) (hm : σ 139 e = m) (hy : σ 140 e = y) (h1 : -1 ≤ x ∧ x ≤ 2000000) (h2 : 0 ≤ m ∧ m ≤ 1000000) (h3 : 0 ≤ t ∧ t ≤ 1000) (h4 : 0 ≤ y ∧ y ≤ 1000000000) (h5 : 0 ≤ z ∧ z ≤ 1000000000) : ∃ τ, jn_X10_takesIn_84 σ e t z = some (0, τ) ∧ τ 118 37 = cap (z + y) ∧ τ 118 36 = tX x m t ∧ (∀ o, ¬ o = 118 → τ o = σ o) ∧ ∀ i, ¬ i = 36 → ¬ i = 37 → τ 118 i = σ 118 i := by
  unfold jn_X10_takesIn_84 cap
  rw [rdA_t (by omega), hy, i2l_r (by omega), cmp_cap (by omega)]
  by_cases c : 1000000000 < z + y
  · rw [if_pos c, if_pos c, if_pos (by omega)]
    exact m_118 he hx hm h1 h2 h3
  · rw [if_neg c, if_neg c, rdA_t (by omega), hy, i2l_r (by omega)]
    rw [if_neg (by
      by_cases c2 : z + y = 1000000000
      · rw [if_pos c2]; omega
      · rw [if_neg c2]; omega)]
    exact m_118 he hx hm h1 h2 h3
theorem m_take {σ : St} {e b s x w l q m y t B : Int} (he : 0 ≤ e ∧ e < 320) (hb : σ 118 34 = b) (hs : σ 118 35 = s) (hx : σ 118 36 = x) (hW : σ 118 37 = w) (hl : σ 137 e = l) (hq : σ 138 e = q) (hm : σ 139 e = m) (hy : σ 140 e = y) (hF : okF B b s x w) (hE : okE B l q m y) (hB : B ≤ 1000) (ht : 0 ≤ t ∧ t ≤ 16) : ∃ τ, f_X10_takesIn σ e t = some (0, τ) ∧ (τ 118 34 = tB b l q t ∧ τ 118 35 = tS b s l q t ∧ τ 118 36 = tX x m t ∧ τ 118 37 = tW b w l y t) ∧ (∀ o, ¬ o = 118 → τ o = σ o) ∧ ∀ i, (i < 34 ∨ 37 < i) → τ 118 i = σ 118 i := by
  obtain ⟨p1, p2, p3, p4⟩ := hE
  have hX : -1 ≤ x ∧ x ≤ 1000 ∧ -1 ≤ b ∧ b ≤ 1000 ∧ -1 ≤ s ∧ s ≤ 1000 ∧ 0 ≤ w ∧ w ≤ 1000000000 := by
    rcases hF with hF | ⟨f1, f2, f3, f4⟩ <;> omega
  obtain ⟨τ, g1, g2, g3, g4, g5⟩ := m_offers (v := l + t) hb hs (by omega) (by omega) (by omega)
  have rB : -1 ≤ oB b (l + t) ∧ oB b (l + t) ≤ 2000 := by
    unfold oB
    by_cases c1 : b = -1
    · rw [if_pos c1]; omega
    · rw [if_neg c1]
      by_cases c2 : l + t < b
      · rw [if_pos c2]; omega
      · rw [if_neg c2]; omega
  have rS : -1 ≤ oS b s (l + t) ∧ oS b s (l + t) ≤ 2000 := by
    unfold oS
    by_cases c1 : b = -1
    · rw [if_pos c1]; omega
    · rw [if_neg c1]
      by_cases c2 : l + t < b
      · rw [if_pos c2]; omega
      · rw [if_neg c2]
        by_cases c3 : s = -1
        · rw [if_pos c3]; omega
        · rw [if_neg c3]
          by_cases c4 : l + t < s
          · rw [if_pos c4]; omega
          · rw [if_neg c4]; omega
  have fin : ∀ ρ : St, (∀ o, ¬ o = 118 → ρ o = σ o) → (∀ i, ¬ i = 34 → ¬ i = 35 → ρ 118 i = σ 118 i) → ∃ τ, jn_X10_takesIn_43 ρ e t b (l + t) = some (0, τ) ∧ τ 118 37 = tW b w l y t ∧ τ 118 36 = tX x m t ∧ (∀ o, ¬ o = 118 → τ o = ρ o) ∧ ∀ i, ¬ i = 36 → ¬ i = 37 → τ 118 i = ρ 118 i := by
    intro ρ r1 r2
    have rx : ρ 118 36 = x := by rw [r2 36 (by omega) (by omega)]; exact hx
    have rw' : ρ 118 37 = w := by rw [r2 37 (by omega) (by omega)]; exact hW
    have rm : ρ 139 e = m := by rw [r1 139 (by omega)]; exact hm
    have ry : ρ 140 e = y := by rw [r1 140 (by omega)]; exact hy
    unfold jn_X10_takesIn_43 tW
    by_cases c1 : b = -1
    · rw [if_pos c1]
      simp (disch := omega) only [↓rdA_t, ↓wrA_t, ↓ixA_t, ↓wrF_d, ↓bd2_s, ↓bd1_s, ↓bnd_d, ↓iww_t, ↓iww_f, ↓iwl_t, ↓iwl_f, ↓ilw_t, ↓ilw_f, ↓eww_t, ↓eww_f, ↓ewl_t, ↓ewl_f, ↓ez_t, ↓ez_f, ↓il_t, ↓il_f, il_t, il_f, ez_t, ez_f, if_true, if_false, upS_h, upS_o, upS_i, Int.reduceAdd, Int.reduceSub, Int.reduceMul, Int.reduceNeg, wI_id]
      exact m_84 he rx rm ry (by omega) (by omega) (by omega) p4 (by omega)
    · rw [if_neg c1]
      by_cases c2 : b < l + t
      · rw [if_pos c2]
        simp (disch := omega) only [↓rdA_t, ↓wrA_t, ↓ixA_t, ↓wrF_d, ↓bd2_s, ↓bd1_s, ↓bnd_d, ↓iww_t, ↓iww_f, ↓iwl_t, ↓iwl_f, ↓ilw_t, ↓ilw_f, ↓eww_t, ↓eww_f, ↓ewl_t, ↓ewl_f, ↓ez_t, ↓ez_f, ↓il_t, ↓il_f, il_t, il_f, ez_t, ez_f, if_true, if_false, upS_h, upS_o, upS_i, Int.reduceAdd, Int.reduceSub, Int.reduceMul, Int.reduceNeg, wI_id, rw']
        exact m_118 he rx rm (by omega) (by omega) (by omega)
      · rw [if_neg c2]
        by_cases c3 : l + t < b
        · rw [if_pos c3]
          simp (disch := omega) only [↓rdA_t, ↓wrA_t, ↓ixA_t, ↓wrF_d, ↓bd2_s, ↓bd1_s, ↓bnd_d, ↓iww_t, ↓iww_f, ↓iwl_t, ↓iwl_f, ↓ilw_t, ↓ilw_f, ↓eww_t, ↓eww_f, ↓ewl_t, ↓ewl_f, ↓ez_t, ↓ez_f, ↓il_t, ↓il_f, il_t, il_f, ez_t, ez_f, if_true, if_false, upS_h, upS_o, upS_i, Int.reduceAdd, Int.reduceSub, Int.reduceMul, Int.reduceNeg, wI_id]
          exact m_84 he rx rm ry (by omega) (by omega) (by omega) p4 (by omega)
        · rw [if_neg c3]
          simp (disch := omega) only [↓rdA_t, ↓wrA_t, ↓ixA_t, ↓wrF_d, ↓bd2_s, ↓bd1_s, ↓bnd_d, ↓iww_t, ↓iww_f, ↓iwl_t, ↓iwl_f, ↓ilw_t, ↓ilw_f, ↓eww_t, ↓eww_f, ↓ewl_t, ↓ewl_f, ↓ez_t, ↓ez_f, ↓il_t, ↓il_f, il_t, il_f, ez_t, ez_f, if_true, if_false, upS_h, upS_o, upS_i, Int.reduceAdd, Int.reduceSub, Int.reduceMul, Int.reduceNeg, wI_id, rw', i2l_r]
          exact m_84 he rx rm ry (by omega) (by omega) (by omega) p4 (by omega)
  unfold f_X10_takesIn tB tS
  by_cases cq : q = -1
  · obtain ⟨ρ, f1, f2, f3, f4, f5⟩ := fin τ g4 g5
    have tq : τ 138 e = q := by rw [g4 138 (by omega)]; exact hq
    rw [if_pos cq, if_pos cq]
    refine ⟨ρ, ?_, ⟨by rw [f5 34 (by omega) (by omega)]; exact g2, by rw [f5 35 (by omega) (by omega)]; exact g3, f3, f2⟩, fun o ho => by rw [f4 o ho, g4 o ho], fun i hi => by rw [f5 i (by omega) (by omega), g5 i (by omega) (by omega)]⟩
    simp (disch := omega) only [↓rdA_t, ↓wrA_t, ↓ixA_t, ↓wrF_d, ↓bd2_s, ↓bd1_s, ↓bnd_d, ↓iww_t, ↓iww_f, ↓iwl_t, ↓iwl_f, ↓ilw_t, ↓ilw_f, ↓eww_t, ↓eww_f, ↓ewl_t, ↓ewl_f, ↓ez_t, ↓ez_f, ↓il_t, ↓il_f, il_t, il_f, ez_t, ez_f, if_true, if_false, upS_h, upS_o, upS_i, Int.reduceAdd, Int.reduceSub, Int.reduceMul, Int.reduceNeg, wI_id, hl, g1, tq, hb, f1]
  · obtain ⟨τ2, k1, k2, k3, k4, k5⟩ := m_offers (σ := τ) (v := q + t) g2 g3 (by omega) (by omega) (by omega)
    obtain ⟨ρ, f1, f2, f3, f4, f5⟩ := fin τ2 (fun o ho => by rw [k4 o ho, g4 o ho]) (fun i i1 i2 => by rw [k5 i i1 i2, g5 i i1 i2])
    have tq : τ 138 e = q := by rw [g4 138 (by omega)]; exact hq
    rw [if_neg cq, if_neg cq]
    refine ⟨ρ, ?_, ⟨by rw [f5 34 (by omega) (by omega)]; exact k2, by rw [f5 35 (by omega) (by omega)]; exact k3, f3, f2⟩, fun o ho => by rw [f4 o ho, k4 o ho, g4 o ho], fun i hi => by rw [f5 i (by omega) (by omega), k5 i (by omega) (by omega), g5 i (by omega) (by omega)]⟩
    simp (disch := omega) only [↓rdA_t, ↓wrA_t, ↓ixA_t, ↓wrF_d, ↓bd2_s, ↓bd1_s, ↓bnd_d, ↓iww_t, ↓iww_f, ↓iwl_t, ↓iwl_f, ↓ilw_t, ↓ilw_f, ↓eww_t, ↓eww_f, ↓ewl_t, ↓ewl_f, ↓ez_t, ↓ez_f, ↓il_t, ↓il_f, il_t, il_f, ez_t, ez_f, if_true, if_false, upS_h, upS_o, upS_i, Int.reduceAdd, Int.reduceSub, Int.reduceMul, Int.reduceNeg, wI_id, hl, g1, tq, k1, hb, f1]
end
section
/-! ===== the reference's chains ===== -/
def mV (σ α : St) (a kd k : Int) (m : Nat) (i : Int) : Prop := σ 137 (40 * k + i) = dp α a kd m 0 i ∧ σ 138 (40 * k + i) = dp α a kd m 1 i ∧ σ 139 (40 * k + i) = dp α a kd m 2 i ∧ σ 140 (40 * k + i) = dp α a kd m 3 i
def mE (σ : St) (F : Int → Int) : Prop := σ 118 34 = F 0 ∧ σ 118 35 = F 1 ∧ σ 118 36 = F 2 ∧ σ 118 37 = F 3
/-- only the running prices change -/
def mN (σ τ : St) : Prop := (∀ o, ¬ o = 118 → τ o = σ o) ∧ ∀ i, (i < 34 ∨ 37 < i) → τ 118 i = σ 118 i
theorem mN_t {σ τ ρ : St} (h1 : mN σ τ) (h2 : mN τ ρ) : mN σ ρ := ⟨fun o a => (h2.1 o a).trans (h1.1 o a), fun i a => (h2.2 i a).trans (h1.2 i a)⟩
theorem mN_J {σ τ α : St} (h : mN σ τ) (hJ : JM σ α) : JM τ α := JM_scr (fun i _ => h.2 i (by omega)) (fun o _ _ => h.1 o (by omega)) hJ
theorem m_103 {α : St} {a kd k i z1 z2 z3 z4 : Int} {m : Nat} (kx : St → Option (Int × St)) (hw : WF α) (hf : allF α a) (h0 : 0 ≤ k) (hk : k = α 0 1 - 1 - (m + 1 : Nat)) (hi : 0 ≤ i ∧ i < nCh α a k) : ∀ (r x : Nat) (σ : St) (n : Nat), JM σ α → mCh σ α a (k + 1) → (∀ j, 0 ≤ j → j < nCh α a (k + 1) → mV σ α a kd (k + 1) m j) → (x : Int) + r = nCh α a (k + 1) → mE σ (fd (dp α a kd m) (jnt α a k i) x) → r < n → ∃ τ, lp_X10_chains_103 z1 z2 k z3 z4 (uCh α a k i) (fitS α kd (uCh α a k i) k) kx n σ x = kx τ ∧ mE τ (fd (dp α a kd m) (jnt α a k i) (x + r)) ∧ mN σ τ := by
  intro r
  have w2 := hw.2.1.2.1
  have w3 := hw.1.2.1
  have n1 := nCh_r hw (show 0 ≤ k + 1 by omega) (show k + 1 < α 0 1 by omega) (hf (k + 1) (by omega) (by omega))
  have u := uCh_r (a := a) (k := k) (i := i) hw hi.1 hi.2
  have hjr : ∀ j : Nat, j < (nCh α a (k + 1)).toNat → 0 ≤ jnt α a k i j ∧ jnt α a k i j ≤ 16 := fun j hj => by
    have v := uCh_r (a := a) (k := k + 1) (i := (j : Int)) hw (by omega) (by omega)
    exact joiS_r hw.1 u.1.1 u.1.2 v.1.1 v.1.2
  have hDr : ∀ j : Nat, j < (nCh α a (k + 1)).toNat → okE (60 * (m + 1)) (dp α a kd m 0 j) (dp α a kd m 1 j) (dp α a kd m 2 j) (dp α a kd m 3 j) := fun j hj => dp_ok hw hf m (k + 1) (by omega) (by omega) j (by omega)
  induction r with
  | zero =>
    intro x σ n h hc hv h1 hE hn
    obtain ⟨n, rfl⟩ : ∃ k, n = k + 1 := ⟨n - 1, by omega⟩
    have hs := h.2.1.1
    have e1 := hc.1
    rw [lp_X10_chains_103]
    exact ⟨σ, by simp (disch := omega) only [↓rdA_t, ↓wrA_t, ↓ixA_t, ↓wrF_d, ↓bd2_s, ↓bd1_s, ↓bnd_d, ↓iww_t, ↓iww_f, ↓iwl_t, ↓iwl_f, ↓ilw_t, ↓ilw_f, ↓eww_t, ↓eww_f, ↓ewl_t, ↓ewl_f, ↓ez_t, ↓ez_f, ↓il_t, ↓il_f, il_t, il_f, ez_t, ez_f, if_true, if_false, upS_h, upS_o, upS_i, Int.reduceAdd, Int.reduceSub, Int.reduceMul, Int.reduceNeg, wI_id, e1], hE, fun _ _ => rfl, fun _ _ => rfl⟩
  | succ r ih =>
    intro x σ n h hc hv h1 hE hn
    obtain ⟨n, rfl⟩ : ∃ k, n = k + 1 := ⟨n - 1, by omega⟩
    have hs := h.2.1.1
    obtain ⟨e1, e3⟩ := hc
    have e4 := e3 x (by omega) (by omega)
    have v := uCh_r (a := a) (k := k + 1) (i := (x : Int)) hw (by omega) (by omega)
    have e5 := m_joint h.1 hw.1 u.1.1 u.1.2 v.1.1 v.1.2
    have ej : joiS α (uCh α a k i) (uCh α a (k + 1) x) = jnt α a k i x := rfl
    rw [ej] at e5
    have okf := (fd_ok hDr hjr x (by omega)).1
    have oke := hDr x (by omega)
    have oke' : okE (60 * (m + 1) + 16) (dp α a kd m 0 x) (dp α a kd m 1 x) (dp α a kd m 2 x) (dp α a kd m 3 x) := by
      obtain ⟨o1, o2, o3, o4⟩ := oke
      exact ⟨by omega, by omega, by omega, o4⟩
    obtain ⟨v0, v1, v2, v3⟩ := hv x (by omega) (by omega)
    obtain ⟨E0, E1, E2, E3⟩ := hE
    obtain ⟨τ, g1, g2, g3, g4⟩ := m_take (t := jnt α a k i x) (B := 60 * (m + 1) + 16) (show 0 ≤ 40 * (k + 1) + (x : Int) ∧ 40 * (k + 1) + (x : Int) < 320 by omega) E0 E1 E2 E3 v0 v1 v2 v3 okf oke' (by omega) (hjr x (by omega))
    have sc : mN σ τ := ⟨g3, g4⟩
    obtain ⟨ρ, f1, f2, f3⟩ := ih (x + 1) τ n (mN_J sc h) (by
      refine ⟨by rw [g3 136 (by omega)]; exact e1, fun j j1 j2 => by rw [g3 135 (by omega)]; exact e3 j j1 j2⟩) (fun j j1 j2 => by
      have q := hv j j1 j2
      unfold mV at q ⊢
      rw [g3 137 (by omega), g3 138 (by omega), g3 139 (by omega), g3 140 (by omega)]
      exact q) (by omega) g2 (by omega)
    rw [show x + 1 + r = x + (r + 1) by omega] at f2
    rw [show ((x + 1 : Nat) : Int) = (x : Int) + 1 by omega] at f1
    refine ⟨ρ, ?_, f2, mN_t sc f3⟩
    rw [← f1, lp_X10_chains_103]
    simp (disch := omega) only [↓rdA_t, ↓wrA_t, ↓ixA_t, ↓wrF_d, ↓bd2_s, ↓bd1_s, ↓bnd_d, ↓iww_t, ↓iww_f, ↓iwl_t, ↓iwl_f, ↓ilw_t, ↓ilw_f, ↓eww_t, ↓eww_f, ↓ewl_t, ↓ewl_f, ↓ez_t, ↓ez_f, ↓il_t, ↓il_f, il_t, il_f, ez_t, ez_f, if_true, if_false, upS_h, upS_o, upS_i, Int.reduceAdd, Int.reduceSub, Int.reduceMul, Int.reduceNeg, wI_id, e1, e4, e5, g1]
theorem m_162 {σ α : St} {a kd k i y : Int} {m : Nat} (kb : St → Int → Option (Int × St)) (h : JM σ α) (hw : WF α) (hf : allF α a) (h0 : 0 ≤ k) (hk : k = α 0 1 - 1 - (m : Nat)) (hi : 0 ≤ i ∧ i < nCh α a k) (z1 z2 : Int) (hE : ∀ m' : Nat, m = m' + 1 → mE σ (fd (dp α a kd m') (jnt α a k i) (nCh α a (k + 1)).toNat)) (hy : y = fitS α kd (uCh α a k i) k) : ∃ τ, jn_X10_chains_162 kb σ z1 z2 k i (40 * k + i) y = kb τ (i + 1) ∧ mV τ α a kd k m i ∧ (∀ o, (o < 137 ∨ 140 < o) → τ o = σ o) ∧ ∀ o j, ¬ j = 40 * k + i → τ o j = σ o j := by
  have w2 := hw.2.1.2.1
  have w3 := hw.1.2.1
  have hs := h.2.1.1
  have n0 := nCh_r hw h0 (show k < α 0 1 by omega) (hf k h0 (by omega))
  subst hy
  unfold jn_X10_chains_162
  cases m with
  | zero =>
    have ek : α 0 1 - 1 = k := by simpa using hk.symm
    have d0 : dp α a kd 0 0 i = fitS α kd (uCh α a k i) k := by rw [dp, ek]; rfl
    have d1 : dp α a kd 0 1 i = -1 := rfl
    have d2 : dp α a kd 0 2 i = fitS α kd (uCh α a k i) k := by rw [dp, ek]; rfl
    have d3 : dp α a kd 0 3 i = 1 := rfl
    simp (disch := omega) only [↓rdA_t, ↓wrA_t, ↓ixA_t, ↓wrF_d, ↓bd2_s, ↓bd1_s, ↓bnd_d, ↓iww_t, ↓iww_f, ↓iwl_t, ↓iwl_f, ↓ilw_t, ↓ilw_f, ↓eww_t, ↓eww_f, ↓ewl_t, ↓ewl_f, ↓ez_t, ↓ez_f, ↓il_t, ↓il_f, il_t, il_f, ez_t, ez_f, if_true, if_false, upS_h, upS_o, upS_i, Int.reduceAdd, Int.reduceSub, Int.reduceMul, Int.reduceNeg, wI_id, Int.add_zero]
    refine ⟨_, rfl, ⟨by simp (disch := omega) only [upS_h, upS_o, upS_i, Int.reduceAdd, Int.reduceSub, Int.reduceMul, Int.reduceNeg]; exact d0.symm, by simp (disch := omega) only [upS_h, upS_o, upS_i, Int.reduceAdd, Int.reduceSub, Int.reduceMul, Int.reduceNeg]; exact d1.symm, by simp (disch := omega) only [upS_h, upS_o, upS_i, Int.reduceAdd, Int.reduceSub, Int.reduceMul, Int.reduceNeg]; exact d2.symm, by simp (disch := omega) only [upS_h, upS_o, upS_i, Int.reduceAdd, Int.reduceSub, Int.reduceMul, Int.reduceNeg]; exact d3.symm⟩, fun o ho => by rw [upS_of (by omega), upS_of (by omega), upS_of (by omega), upS_of (by omega)], fun o j hj => by rw [upS_i hj, upS_i hj, upS_i hj, upS_i hj]⟩
  | succ m =>
    obtain ⟨E0, E1, E2, E3⟩ := hE m rfl
    obtain ⟨s0, s1, s2, s3⟩ := dp_s (α := α) (a := a) (kd := kd) (i := i) hk
    have n1 := nCh_r hw (show 0 ≤ k + 1 by omega) (show k + 1 < α 0 1 by omega) (hf (k + 1) (by omega) (by omega))
    have u := uCh_r (a := a) (k := k) (i := i) hw hi.1 hi.2
    have hjr : ∀ j : Nat, j < (nCh α a (k + 1)).toNat → 0 ≤ jnt α a k i j ∧ jnt α a k i j ≤ 16 := fun j hj => by
      have v := uCh_r (a := a) (k := k + 1) (i := (j : Int)) hw (by omega) (by omega)
      exact joiS_r hw.1 u.1.1 u.1.2 v.1.1 v.1.2
    have hDr : ∀ j : Nat, j < (nCh α a (k + 1)).toNat → okE (60 * (m + 1)) (dp α a kd m 0 j) (dp α a kd m 1 j) (dp α a kd m 2 j) (dp α a kd m 3 j) := fun j hj => dp_ok hw hf m (k + 1) (by omega) (by omega) j (by omega)
    obtain ⟨o1, o2, o3, o4⟩ := (fd_ok hDr hjr (nCh α a (k + 1)).toNat (by omega)).2 (by omega)
    by_cases c : fd (dp α a kd m) (jnt α a k i) (nCh α a (k + 1)).toNat 1 = -1
    · rw [if_pos c] at s1
      simp (disch := omega) only [↓rdA_t, ↓wrA_t, ↓ixA_t, ↓wrF_d, ↓bd2_s, ↓bd1_s, ↓bnd_d, ↓iww_t, ↓iww_f, ↓iwl_t, ↓iwl_f, ↓ilw_t, ↓ilw_f, ↓eww_t, ↓eww_f, ↓ewl_t, ↓ewl_f, ↓ez_t, ↓ez_f, ↓il_t, ↓il_f, il_t, il_f, ez_t, ez_f, if_true, if_false, upS_h, upS_o, upS_i, Int.reduceAdd, Int.reduceSub, Int.reduceMul, Int.reduceNeg, wI_id, E0, E1, E2, E3]
      refine ⟨_, rfl, ⟨by simp (disch := omega) only [upS_h, upS_o, upS_i, Int.reduceAdd, Int.reduceSub, Int.reduceMul, Int.reduceNeg]; exact s0.symm, by simp (disch := omega) only [upS_h, upS_o, upS_i, Int.reduceAdd, Int.reduceSub, Int.reduceMul, Int.reduceNeg]; exact s1.symm, by simp (disch := omega) only [upS_h, upS_o, upS_i, Int.reduceAdd, Int.reduceSub, Int.reduceMul, Int.reduceNeg]; exact s2.symm, by simp (disch := omega) only [upS_h, upS_o, upS_i, Int.reduceAdd, Int.reduceSub, Int.reduceMul, Int.reduceNeg]; exact s3.symm⟩, fun o ho => by rw [upS_of (by omega), upS_of (by omega), upS_of (by omega), upS_of (by omega)], fun o j hj => by rw [upS_i hj, upS_i hj, upS_i hj, upS_i hj]⟩
    · rw [if_neg c] at s1
      simp (disch := omega) only [↓rdA_t, ↓wrA_t, ↓ixA_t, ↓wrF_d, ↓bd2_s, ↓bd1_s, ↓bnd_d, ↓iww_t, ↓iww_f, ↓iwl_t, ↓iwl_f, ↓ilw_t, ↓ilw_f, ↓eww_t, ↓eww_f, ↓ewl_t, ↓ewl_f, ↓ez_t, ↓ez_f, ↓il_t, ↓il_f, il_t, il_f, ez_t, ez_f, if_true, if_false, upS_h, upS_o, upS_i, Int.reduceAdd, Int.reduceSub, Int.reduceMul, Int.reduceNeg, wI_id, E0, E1, E2, E3]
      refine ⟨_, rfl, ⟨by simp (disch := omega) only [upS_h, upS_o, upS_i, Int.reduceAdd, Int.reduceSub, Int.reduceMul, Int.reduceNeg]; exact s0.symm, by simp (disch := omega) only [upS_h, upS_o, upS_i, Int.reduceAdd, Int.reduceSub, Int.reduceMul, Int.reduceNeg]; exact s1.symm, by simp (disch := omega) only [upS_h, upS_o, upS_i, Int.reduceAdd, Int.reduceSub, Int.reduceMul, Int.reduceNeg]; exact s2.symm, by simp (disch := omega) only [upS_h, upS_o, upS_i, Int.reduceAdd, Int.reduceSub, Int.reduceMul, Int.reduceNeg]; exact s3.symm⟩, fun o ho => by rw [upS_of (by omega), upS_of (by omega), upS_of (by omega), upS_of (by omega)], fun o j hj => by rw [upS_i hj, upS_i hj, upS_i hj, upS_i hj]⟩
end
section
/-! ===== the reference weighs ===== -/
def mG (σ τ : St) : Prop := (∀ o, (o < 118 ∨ (118 < o ∧ o < 137) ∨ 140 < o) → τ o = σ o) ∧ ∀ i, (i < 34 ∨ 37 < i) → τ 118 i = σ 118 i
theorem mG_t {σ τ ρ : St} (h1 : mG σ τ) (h2 : mG τ ρ) : mG σ ρ := ⟨fun o a => (h2.1 o a).trans (h1.1 o a), fun i a => (h2.2 i a).trans (h1.2 i a)⟩
theorem mG_J {σ τ α : St} (h : mG σ τ) (hJ : JM σ α) : JM τ α := JM_scr (fun i _ => h.2 i (by omega)) (fun o _ _ => h.1 o (by omega)) hJ
theorem mG_C {σ τ α : St} {a q : Int} (h : mG σ τ) (hc : mCh σ α a q) : mCh τ α a q := by
  unfold mCh at hc ⊢
  rw [h.1 135 (by omega), h.1 136 (by omega)]
  exact hc
theorem m_begin {σ : St} (D : Int → Int → Int) (jt : Int → Int) : ∃ τ, f_X10_begins σ = some (0, τ) ∧ mE τ (fd D jt 0) ∧ mN σ τ := by
  unfold f_X10_begins
  simp (disch := omega) only [↓rdA_t, ↓wrA_t, ↓ixA_t, ↓wrF_d, ↓bd2_s, ↓bd1_s, ↓bnd_d, ↓iww_t, ↓iww_f, ↓iwl_t, ↓iwl_f, ↓ilw_t, ↓ilw_f, ↓eww_t, ↓eww_f, ↓ewl_t, ↓ewl_f, ↓ez_t, ↓ez_f, ↓il_t, ↓il_f, il_t, il_f, ez_t, ez_f, if_true, if_false, upS_h, upS_o, upS_i, Int.reduceAdd, Int.reduceSub, Int.reduceMul, Int.reduceNeg, wI_id]
  exact ⟨_, rfl, ⟨by simp (disch := omega) only [upS_h, upS_o, upS_i, Int.reduceAdd, Int.reduceSub, Int.reduceMul, Int.reduceNeg]; rfl, by simp (disch := omega) only [upS_h, upS_o, upS_i, Int.reduceAdd, Int.reduceSub, Int.reduceMul, Int.reduceNeg]; rfl, by simp (disch := omega) only [upS_h, upS_o, upS_i, Int.reduceAdd, Int.reduceSub, Int.reduceMul, Int.reduceNeg]; rfl, by simp (disch := omega) only [upS_h, upS_o, upS_i, Int.reduceAdd, Int.reduceSub, Int.reduceMul, Int.reduceNeg]; rfl⟩, fun o ho => by rw [upS_of ho, upS_of ho, upS_of ho, upS_of ho], fun i hi => by rw [upS_i (by omega), upS_i (by omega), upS_i (by omega), upS_i (by omega)]⟩
theorem m_57 {α : St} {a kd k y : Int} {m : Nat} (kx : St → Option (Int × St)) (hw : WF α) (hf : allF α a) (hkd : 0 ≤ kd ∧ kd ≤ 4) (h0 : 0 ≤ k) (hk : k = α 0 1 - 1 - (m : Nat)) : ∀ (r : Nat) (σ : St) (x : Int) (n : Nat), JM σ α → (∀ q, 0 ≤ q → q < α 0 1 → mCh σ α a q) → (∀ m' : Nat, m = m' + 1 → ∀ j, 0 ≤ j → j < nCh α a (k + 1) → mV σ α a kd (k + 1) m' j) → 0 ≤ x → x + r = nCh α a k → (∀ i, 0 ≤ i → i < x → mV σ α a kd k m i) → r < n → ∃ τ, lp_X10_chains_57 kd y k kx n σ x = kx τ ∧ (∀ i, 0 ≤ i → i < nCh α a k → mV τ α a kd k m i) ∧ mG σ τ ∧ ∀ o j, ¬ o = 118 → (j < 40 * k ∨ 40 * k + 40 ≤ j) → τ o j = σ o j := by
  intro r
  have w2 := hw.2.1.2.1
  have w3 := hw.1.2.1
  have n0 := nCh_r hw h0 (show k < α 0 1 by omega) (hf k h0 (by omega))
  induction r with
  | zero =>
    intro σ x n h hc hv hx h1 h2 hn
    obtain ⟨n, rfl⟩ : ∃ k, n = k + 1 := ⟨n - 1, by omega⟩
    have e1 := (hc k h0 (by omega)).1
    rw [lp_X10_chains_57]
    exact ⟨σ, by simp (disch := omega) only [↓rdA_t, ↓wrA_t, ↓ixA_t, ↓wrF_d, ↓bd2_s, ↓bd1_s, ↓bnd_d, ↓iww_t, ↓iww_f, ↓iwl_t, ↓iwl_f, ↓ilw_t, ↓ilw_f, ↓eww_t, ↓eww_f, ↓ewl_t, ↓ewl_f, ↓ez_t, ↓ez_f, ↓il_t, ↓il_f, il_t, il_f, ez_t, ez_f, if_true, if_false, upS_h, upS_o, upS_i, Int.reduceAdd, Int.reduceSub, Int.reduceMul, Int.reduceNeg, wI_id, e1], fun i i1 i2 => h2 i i1 (by omega), ⟨fun _ _ => rfl, fun _ _ => rfl⟩, fun _ _ _ _ => rfl⟩
  | succ r ih =>
    intro σ x n h hc hv hx h1 h2 hn
    obtain ⟨n, rfl⟩ : ∃ k, n = k + 1 := ⟨n - 1, by omega⟩
    obtain ⟨e1, e3⟩ := hc k h0 (by omega)
    have e4 := e3 x hx (by omega)
    have u := uCh_r (a := a) (k := k) (i := x) hw hx (by omega)
    have e2 := m_fit h hw hkd u.1.1 u.1.2 h0 (show k < α 0 1 by omega)
    -- after the inner loop
    have inner : ∃ τ, (bd2 (f_X10_begins σ) fun v18 σ19 => lp_X10_chains_103 kd y k x (40 * k + x) (uCh α a k x) (fitS α kd (uCh α a k x) k) (fun σ28 => jn_X10_chains_162 (lp_X10_chains_57 kd y k kx n) σ28 kd y k x (40 * k + x) (fitS α kd (uCh α a k x) k)) 1000 σ19 0) = jn_X10_chains_162 (lp_X10_chains_57 kd y k kx n) τ kd y k x (40 * k + x) (fitS α kd (uCh α a k x) k) ∧ (∀ m' : Nat, m = m' + 1 → mE τ (fd (dp α a kd m') (jnt α a k x) (nCh α a (k + 1)).toNat)) ∧ mN σ τ := by
      cases m with
      | zero =>
        obtain ⟨τ, b1, b2, b3⟩ := m_begin (σ := σ) (dp α a kd 0) (jnt α a k x)
        have hJ := mN_J b3 h
        have hs := hJ.2.1.1
        refine ⟨τ, ?_, fun m' hm => by omega, b3⟩
        rw [b1, bd2_s, lp_X10_chains_103]
        simp (disch := omega) only [↓rdA_t, ↓wrA_t, ↓ixA_t, ↓wrF_d, ↓bd2_s, ↓bd1_s, ↓bnd_d, ↓iww_t, ↓iww_f, ↓iwl_t, ↓iwl_f, ↓ilw_t, ↓ilw_f, ↓eww_t, ↓eww_f, ↓ewl_t, ↓ewl_f, ↓ez_t, ↓ez_f, ↓il_t, ↓il_f, il_t, il_f, ez_t, ez_f, if_true, if_false, upS_h, upS_o, upS_i, Int.reduceAdd, Int.reduceSub, Int.reduceMul, Int.reduceNeg, wI_id]
      | succ m =>
        have n1 := nCh_r hw (show 0 ≤ k + 1 by omega) (show k + 1 < α 0 1 by omega) (hf (k + 1) (by omega) (by omega))
        obtain ⟨τ, b1, b2, b3⟩ := m_begin (σ := σ) (dp α a kd m) (jnt α a k x)
        have hJ := mN_J b3 h
        obtain ⟨ρ, f1, f2, f3⟩ := m_103 (α := α) (a := a) (kd := kd) (k := k) (i := x) (z1 := kd) (z2 := y) (z3 := x) (z4 := 40 * k + x) (m := m) (fun σ28 => jn_X10_chains_162 (lp_X10_chains_57 kd y k kx n) σ28 kd y k x (40 * k + x) (fitS α kd (uCh α a k x) k)) hw hf h0 hk ⟨hx, by omega⟩ (nCh α a (k + 1)).toNat 0 τ 1000 hJ (by
          have z := hc (k + 1) (by omega) (by omega)
          unfold mCh at z ⊢
          rw [b3.1 135 (by omega), b3.1 136 (by omega)]
          exact z) (fun j j1 j2 => by
          have z := hv m rfl j j1 j2
          unfold mV at z ⊢
          rw [b3.1 137 (by omega), b3.1 138 (by omega), b3.1 139 (by omega), b3.1 140 (by omega)]
          exact z) (by omega) b2 (by omega)
        rw [Nat.zero_add] at f2
        refine ⟨ρ, ?_, fun m' hm => ?_, mN_t b3 f3⟩
        · rw [b1, bd2_s]
          exact f1
        · have : m' = m := by omega
          subst this
          exact f2
    obtain ⟨τ, i1, i2, i3⟩ := inner
    obtain ⟨ρ, j1, j2, j3, j4⟩ := m_162 (α := α) (a := a) (kd := kd) (k := k) (i := x) (m := m) (lp_X10_chains_57 kd y k kx n) (mN_J i3 h) hw hf h0 hk ⟨hx, by omega⟩ kd y i2 rfl
    have sc : mG σ ρ := ⟨fun o ho => by rw [j3 o (by omega), i3.1 o (by omega)], fun i hi => by rw [j3 118 (by omega), i3.2 i hi]⟩
    have ot : ∀ o j, ¬ o = 118 → ¬ j = 40 * k + x → ρ o j = σ o j := fun o j ho hj => by rw [j4 o j hj, i3.1 o ho]
    obtain ⟨ξ, f1, f2, f3, f4⟩ := ih ρ (x + 1) n (mG_J sc h) (fun q q1 q2 => mG_C sc (hc q q1 q2)) (fun m' hm j t1 t2 => by
      have z := hv m' hm j t1 t2
      unfold mV at z ⊢
      rw [ot 137 _ (by omega) (by omega), ot 138 _ (by omega) (by omega), ot 139 _ (by omega) (by omega), ot 140 _ (by omega) (by omega)]
      exact z) (by omega) (by omega) (fun i t1 t2 => by
      by_cases c : i = x
      · subst c; exact j2
      · have z := h2 i t1 (by omega)
        unfold mV at z ⊢
        rw [ot 137 _ (by omega) (by omega), ot 138 _ (by omega) (by omega), ot 139 _ (by omega) (by omega), ot 140 _ (by omega) (by omega)]
        exact z) (by omega)
    refine ⟨ξ, ?_, f2, mG_t sc f3, fun o j ho hj => by rw [f4 o j ho hj, ot o j ho (by omega)]⟩
    rw [← f1, ← j1, ← i1, lp_X10_chains_57]
    simp (disch := omega) only [↓rdA_t, ↓wrA_t, ↓ixA_t, ↓wrF_d, ↓bd2_s, ↓bd1_s, ↓bnd_d, ↓iww_t, ↓iww_f, ↓iwl_t, ↓iwl_f, ↓ilw_t, ↓ilw_f, ↓eww_t, ↓eww_f, ↓ewl_t, ↓ewl_f, ↓ez_t, ↓ez_f, ↓il_t, ↓il_f, il_t, il_f, ez_t, ez_f, if_true, if_false, upS_h, upS_o, upS_i, Int.reduceAdd, Int.reduceSub, Int.reduceMul, Int.reduceNeg, wI_id, e1, e4, e2]
end
section
theorem m_46 {α : St} {a kd : Int} (kx : St → Option (Int × St)) (hw : WF α) (hf : allF α a) (hkd : 0 ≤ kd ∧ kd ≤ 4) : ∀ (r : Nat) (σ : St) (k : Int) (n : Nat), JM σ α → (∀ q, 0 ≤ q → q < α 0 1 → mCh σ α a q) → k + 1 = r → k < α 0 1 → (∀ q, k < q → q < α 0 1 → ∀ i, 0 ≤ i → i < nCh α a q → mV σ α a kd q (α 0 1 - 1 - q).toNat i) → r < n → ∃ τ, lp_X10_chains_46 kd 1 kx n σ k = kx τ ∧ (∀ q, 0 ≤ q → q < α 0 1 → ∀ i, 0 ≤ i → i < nCh α a q → mV τ α a kd q (α 0 1 - 1 - q).toNat i) ∧ mG σ τ := by
  intro r
  have w2 := hw.2.1.2.1
  have w3 := hw.1.2.1
  induction r with
  | zero =>
    intro σ k n h hc h1 h2 hv hn
    obtain ⟨n, rfl⟩ : ∃ k, n = k + 1 := ⟨n - 1, by omega⟩
    rw [lp_X10_chains_46]
    exact ⟨σ, by simp (disch := omega) only [↓rdA_t, ↓wrA_t, ↓ixA_t, ↓wrF_d, ↓bd2_s, ↓bd1_s, ↓bnd_d, ↓iww_t, ↓iww_f, ↓iwl_t, ↓iwl_f, ↓ilw_t, ↓ilw_f, ↓eww_t, ↓eww_f, ↓ewl_t, ↓ewl_f, ↓ez_t, ↓ez_f, ↓il_t, ↓il_f, il_t, il_f, ez_t, ez_f, if_true, if_false, upS_h, upS_o, upS_i, Int.reduceAdd, Int.reduceSub, Int.reduceMul, Int.reduceNeg, wI_id], fun q q1 q2 => hv q (by omega) q2, fun _ _ => rfl, fun _ _ => rfl⟩
  | succ r ih =>
    intro σ k n h hc h1 h2 hv hn
    obtain ⟨n, rfl⟩ : ∃ k, n = k + 1 := ⟨n - 1, by omega⟩
    have n0 := nCh_r hw (show 0 ≤ k by omega) h2 (hf k (by omega) h2)
    obtain ⟨τ, g1, g2, g3, g4⟩ := m_57 (α := α) (a := a) (kd := kd) (k := k) (y := 1) (m := (α 0 1 - 1 - k).toNat) (fun σ45 => lp_X10_chains_46 kd 1 kx n σ45 (k + (-1))) hw hf hkd (by omega) (by omega) (nCh α a k).toNat σ 0 1000 h hc (fun m' hm j j1 j2 => by
      have q := hv (k + 1) (by omega) (by omega) j j1 j2
      rw [show (α 0 1 - 1 - (k + 1)).toNat = m' by omega] at q
      exact q) (by omega) (by omega) (fun i i1 i2 => by omega) (by omega)
    obtain ⟨ρ, f1, f2, f3⟩ := ih τ (k + (-1)) n (mG_J g3 h) (fun q q1 q2 => mG_C g3 (hc q q1 q2)) (by omega) (by omega) (fun q q1 q2 i i1 i2 => by
      by_cases c : q = k
      · subst c; exact g2 i i1 i2
      · have z := hv q (by omega) q2 i i1 i2
        have nq := nCh_r hw (show 0 ≤ q by omega) q2 (hf q (by omega) q2)
        unfold mV at z ⊢
        rw [g4 137 _ (by omega) (by omega), g4 138 _ (by omega) (by omega), g4 139 _ (by omega) (by omega), g4 140 _ (by omega) (by omega)]
        exact z) (by omega)
    refine ⟨ρ, ?_, f2, mG_t g3 f3⟩
    rw [← f1, lp_X10_chains_46, ← g1]
    simp (disch := omega) only [↓rdA_t, ↓wrA_t, ↓ixA_t, ↓wrF_d, ↓bd2_s, ↓bd1_s, ↓bnd_d, ↓iww_t, ↓iww_f, ↓iwl_t, ↓iwl_f, ↓ilw_t, ↓ilw_f, ↓eww_t, ↓eww_f, ↓ewl_t, ↓ewl_f, ↓ez_t, ↓ez_f, ↓il_t, ↓il_f, il_t, il_f, ez_t, ez_f, if_true, if_false, upS_h, upS_o, upS_i, Int.reduceAdd, Int.reduceSub, Int.reduceMul, Int.reduceNeg, wI_id]
theorem m_294 {α : St} {a kd : Int} (kx : St → Option (Int × St)) (hw : WF α) (hf : allF α a) (hn0 : 0 < α 0 1) : ∀ (r x : Nat) (σ : St) (n : Nat), mCh σ α a 0 → (∀ i, 0 ≤ i → i < nCh α a 0 → mV σ α a kd 0 (α 0 1 - 1).toNat i) → (x : Int) + r = nCh α a 0 → mE σ (fd (dp α a kd (α 0 1 - 1).toNat) (fun _ => 0) x) → r < n → ∃ τ, lp_X10_chains_294 1 kx n σ x = kx τ ∧ mE τ (fd (dp α a kd (α 0 1 - 1).toNat) (fun _ => 0) (x + r)) ∧ mN σ τ := by
  intro r
  have w2 := hw.2.1.2.1
  have w3 := hw.1.2.1
  have n0 := nCh_r hw (show (0 : Int) ≤ 0 by omega) hn0 (hf 0 (by omega) hn0)
  have hDr : ∀ j : Nat, j < (nCh α a 0).toNat → okE 480 (dp α a kd (α 0 1 - 1).toNat 0 j) (dp α a kd (α 0 1 - 1).toNat 1 j) (dp α a kd (α 0 1 - 1).toNat 2 j) (dp α a kd (α 0 1 - 1).toNat 3 j) := fun j hj => by
    have q := dp_ok (kd := kd) hw hf (α 0 1 - 1).toNat 0 (by omega) (by omega) j (by omega)
    obtain ⟨o1, o2, o3, o4⟩ := q
    exact ⟨by omega, by omega, by omega, o4⟩
  induction r with
  | zero =>
    intro x σ n hc hv h1 hE hn
    obtain ⟨n, rfl⟩ : ∃ k, n = k + 1 := ⟨n - 1, by omega⟩
    have e1 := hc.1
    rw [lp_X10_chains_294]
    exact ⟨σ, by simp (disch := omega) only [↓rdA_t, ↓wrA_t, ↓ixA_t, ↓wrF_d, ↓bd2_s, ↓bd1_s, ↓bnd_d, ↓iww_t, ↓iww_f, ↓iwl_t, ↓iwl_f, ↓ilw_t, ↓ilw_f, ↓eww_t, ↓eww_f, ↓ewl_t, ↓ewl_f, ↓ez_t, ↓ez_f, ↓il_t, ↓il_f, il_t, il_f, ez_t, ez_f, if_true, if_false, upS_h, upS_o, upS_i, Int.reduceAdd, Int.reduceSub, Int.reduceMul, Int.reduceNeg, wI_id, e1], hE, fun _ _ => rfl, fun _ _ => rfl⟩
  | succ r ih =>
    intro x σ n hc hv h1 hE hn
    obtain ⟨n, rfl⟩ : ∃ k, n = k + 1 := ⟨n - 1, by omega⟩
    have e1 := hc.1
    have okf := (fd_ok (jt := fun _ => 0) hDr (fun j hj => by omega) x (by omega)).1
    have oke := hDr x (by omega)
    have oke' : okE (480 + 16) (dp α a kd (α 0 1 - 1).toNat 0 x) (dp α a kd (α 0 1 - 1).toNat 1 x) (dp α a kd (α 0 1 - 1).toNat 2 x) (dp α a kd (α 0 1 - 1).toNat 3 x) := by
      obtain ⟨o1, o2, o3, o4⟩ := oke
      exact ⟨by omega, by omega, by omega, o4⟩
    obtain ⟨v0, v1, v2, v3⟩ := hv x (by omega) (by omega)
    rw [show 40 * 0 + (x : Int) = x by omega] at v0 v1 v2 v3
    obtain ⟨E0, E1, E2, E3⟩ := hE
    obtain ⟨τ, g1, g2, g3, g4⟩ := m_take (t := 0) (B := 480 + 16) (show 0 ≤ (x : Int) ∧ (x : Int) < 320 by omega) E0 E1 E2 E3 v0 v1 v2 v3 okf oke' (by omega) (by omega)
    have sc : mN σ τ := ⟨g3, g4⟩
    obtain ⟨ρ, f1, f2, f3⟩ := ih (x + 1) τ n (by
      unfold mCh at hc ⊢
      rw [g3 135 (by omega), g3 136 (by omega)]
      exact hc) (fun j j1 j2 => by
      have q := hv j j1 j2
      unfold mV at q ⊢
      rw [g3 137 (by omega), g3 138 (by omega), g3 139 (by omega), g3 140 (by omega)]
      exact q) (by omega) g2 (by omega)
    rw [show x + 1 + r = x + (r + 1) by omega] at f2
    rw [show ((x + 1 : Nat) : Int) = (x : Int) + 1 by omega] at f1
    refine ⟨ρ, ?_, f2, mN_t sc f3⟩
    rw [← f1, lp_X10_chains_294]
    simp (disch := omega) only [↓rdA_t, ↓wrA_t, ↓ixA_t, ↓wrF_d, ↓bd2_s, ↓bd1_s, ↓bnd_d, ↓iww_t, ↓iww_f, ↓iwl_t, ↓iwl_f, ↓ilw_t, ↓ilw_f, ↓eww_t, ↓eww_f, ↓ewl_t, ↓ewl_f, ↓ez_t, ↓ez_f, ↓il_t, ↓il_f, il_t, il_f, ez_t, ez_f, if_true, if_false, upS_h, upS_o, upS_i, Int.reduceAdd, Int.reduceSub, Int.reduceMul, Int.reduceNeg, wI_id, e1, g1]
/-- the reference's chains stand -/
def mFd (τ α : St) (a kd : Int) : Prop := mE τ (tp α a kd) ∧ (∀ q, 0 ≤ q → q < α 0 1 → mCh τ α a q) ∧ ∀ q, 0 ≤ q → q < α 0 1 → ∀ i, 0 ≤ i → i < nCh α a q → mV τ α a kd q (α 0 1 - 1 - q).toNat i
theorem mG_S {σ τ : St} (h : mG σ τ) : mSc σ τ := ⟨fun o ho => h.1 o (by omega), fun i a b c => h.2 i c⟩
theorem mN_S {σ τ : St} (h : mN σ τ) : mSc σ τ := ⟨fun o ho => h.1 o (by omega), fun i a b c => h.2 i c⟩
theorem m_chains {σ α : St} {a kd : Int} (h : JM σ α) (hw : WF α) (hg : σ 118 27 = a) (ha : -1 ≤ a ∧ a < 40) (hkd : 0 ≤ kd ∧ kd ≤ 4) : ((0 < α 0 1 ∧ allF α a) ∧ ∃ τ, f_X10_chains σ kd = some (1, τ) ∧ mFd τ α a kd ∧ mSc σ τ) ∨ (¬ (0 < α 0 1 ∧ allF α a) ∧ ∃ τ, f_X10_chains σ kd = some (0, τ) ∧ mSc σ τ) := by
  have w1 := hw.2.1.1
  have w2 := hw.2.1.2.1
  have w3 := hw.1.2.1
  have hs := h.2.1.1
  -- with nothing chosen the two loops pass
  have nOne : ∀ τ : St, JM τ α → ∃ ρ, jn_X10_chains_39 τ kd 0 = some (0, ρ) ∧ mN τ ρ := by
    intro τ hJ
    have hs2 := hJ.2.1.1
    obtain ⟨ρ, b1, b2, b3⟩ := m_begin (σ := τ) (fun _ _ => 0) (fun _ => 0)
    refine ⟨ρ, ?_, b3⟩
    unfold jn_X10_chains_39 jn_X10_chains_288
    rw [bnd_d, lp_X10_chains_46]
    have e : (bd2 (f_X10_begins τ) fun v47 σ48 => lp_X10_chains_294 0 (fun σ54 => if (0 : Int) = 0 ∨ (0 : Int) = 1 then some (0, σ54) else none) 1000 σ48 0) = some (0, ρ) := by
      rw [b1, bd2_s, lp_X10_chains_294, ewl_t (by omega), if_pos (Or.inl rfl)]
    by_cases c : α 0 1 - 1 < 0
    · rw [iwl_t (by omega)]
      exact e
    · rw [iwl_f (by omega), ewl_t (by omega)]
      exact e
  unfold f_X10_chains
  by_cases c0 : 0 < α 0 1
  · rw [bnd_d, hs, ilw_t (by omega)]
    rcases m_all_g (α := α) (a := a) (kd := kd) (fun σ8 y9 => jn_X10_chains_39 σ8 kd y9) hw ha (α 0 1).toNat σ 0 1000 h hg (by omega) (by omega) (fun k k1 k2 => by omega) (by omega) with ⟨b1, τ, b2, b3, b4⟩ | ⟨b1, τ, b2, b3⟩
    · left
      have hJ := mSc_J b4 h
      have hs2 := hJ.2.1.1
      have n0 := nCh_r hw (show (0 : Int) ≤ 0 by omega) c0 (b1 0 (by omega) c0)
      obtain ⟨ρ, g1, g2, g3⟩ := m_46 (α := α) (a := a) (kd := kd) (fun σ46 => jn_X10_chains_288 σ46 1) hw b1 hkd (α 0 1).toNat τ (α 0 1 - 1) 1000 hJ b3 (by omega) (by omega) (fun q q1 q2 => by omega) (by omega)
      obtain ⟨ξ, d1, d2, d3⟩ := m_begin (σ := ρ) (dp α a kd (α 0 1 - 1).toNat) (fun _ => 0)
      have lev : ∀ {ζ : St}, mN ρ ζ → ∀ q, 0 ≤ q → q < α 0 1 → ∀ i, 0 ≤ i → i < nCh α a q → mV ζ α a kd q (α 0 1 - 1 - q).toNat i := fun hx q q1 q2 i i1 i2 => by
        have z := g2 q q1 q2 i i1 i2
        unfold mV at z ⊢
        rw [hx.1 137 (by omega), hx.1 138 (by omega), hx.1 139 (by omega), hx.1 140 (by omega)]
        exact z
      have chs : ∀ {ζ : St}, mN ρ ζ → ∀ q, 0 ≤ q → q < α 0 1 → mCh ζ α a q := fun hx q q1 q2 => by
        have z := mG_C g3 (b3 q q1 q2)
        unfold mCh at z ⊢
        rw [hx.1 135 (by omega), hx.1 136 (by omega)]
        exact z
      obtain ⟨ζ, f1, f2, f3⟩ := m_294 (α := α) (a := a) (kd := kd) (fun σ54 => if (1 : Int) = 0 ∨ (1 : Int) = 1 then some (1, σ54) else none) hw b1 c0 (nCh α a 0).toNat 0 ξ 1000 (chs d3 0 (by omega) c0) (fun i i1 i2 => by
        have q := lev d3 0 (by omega) c0 i i1 i2
        rw [show (α 0 1 - 1 - 0).toNat = (α 0 1 - 1).toNat by omega] at q
        exact q) (by omega) d2 (by omega)
      rw [Nat.zero_add] at f2
      have sc := mN_t d3 f3
      refine ⟨⟨c0, b1⟩, ζ, ?_, ⟨f2, chs sc, lev sc⟩, mSc_t b4 (mSc_t (mG_S g3) (mN_S sc))⟩
      rw [b2]
      unfold jn_X10_chains_39
      rw [bnd_d, hs2, g1]
      unfold jn_X10_chains_288
      have e0 : (((0 : Nat)) : Int) = 0 := rfl
      rw [e0] at f1
      rw [d1, bd2_s, f1, if_pos (Or.inr rfl)]
    · right
      obtain ⟨ρ, g1, g2⟩ := nOne τ (mSc_J b3 h)
      refine ⟨fun z => b1 z.2, ρ, ?_, mSc_t b3 (mN_S g2)⟩
      rw [b2]
      exact g1
  · right
    obtain ⟨ρ, g1, g2⟩ := nOne σ h
    refine ⟨fun z => c0 z.1, ρ, ?_, mN_S g2⟩
    rw [bnd_d, hs, ilw_f (by omega), lp_X10_chains_15, iww_f (by omega)]
    exact g1
end
section
/-! ===== cost, ways, next, dearest ===== -/
theorem m_now {σ α : St} (h : IM σ α) (hw : WF α) : ((0 < α 0 1 ∧ allF α (-1)) ∧ ∃ τ, f_X10_chainsNow σ = some (1, τ) ∧ mFd τ α (-1) (α 0 2) ∧ τ 118 39 = α 0 2 ∧ IM τ α ∧ ∀ o, o < 118 → τ o = σ o) ∨ (¬ (0 < α 0 1 ∧ allF α (-1)) ∧ ∃ τ, f_X10_chainsNow σ = some (0, τ) ∧ IM τ α ∧ ∀ o, o < 118 → τ o = σ o) := by
  have hI : IM (upS σ 118 39 (σ 118 5)) α := IM_scr (fun i hi => upS_i (by unfold mF at hi; omega)) (fun o o1 o2 => upS_of (by omega)) h
  have ek : upS σ 118 39 (σ 118 5) 118 5 = α 0 2 := hI.2.2.1.1
  have ek' : σ 118 5 = α 0 2 := h.2.2.1.1
  unfold f_X10_chainsNow
  rw [wrF_d, ek]
  rcases m_chains (JM_of hI) hw hI.2.2.1.2.2.2.2.2 (by omega) hw.2.2.1.1 with ⟨b1, τ, b2, b3, b4⟩ | ⟨b1, τ, b2, b3⟩
  · left
    refine ⟨b1, τ, by rw [b2, bd2_s], b3, by rw [b4.2 39 (by omega) (by omega) (by omega), upS_h ⟨rfl, rfl⟩, ek'], mSc_I b4 hI, fun o ho => by rw [b4.1 o (by omega), upS_of (by omega)]⟩
  · right
    refine ⟨b1, τ, by rw [b2, bd2_s], mSc_I b3 hI, fun o ho => by rw [b3.1 o (by omega), upS_of (by omega)]⟩
def rPr (α : St) (w : Int) : Int := if has α (-1) = 1 then tp α (-1) (α 0 2) w else -3
def aNo (α : St) (a : Int) : St := if has α a = 1 then α else aR α 4
theorem wf_no {α : St} {a : Int} (hw : WF α) : WF (aNo α a) := by
  unfold aNo
  by_cases c : has α a = 1
  · rw [if_pos c]; exact hw
  · rw [if_neg c]; exact WF_aR 4 (by omega) hw
theorem xc_cost {σ α : St} (h : IC σ α) (hw : WF α) : oC (f_X9_cost σ) σ α (rPr α 0) (aNo α (-1)) := by
  unfold f_X9_cost rPr aNo f_X0_leastPrice
  rcases c_find h hw (a := -1) (by omega) with ⟨b1, τ, b2, b3, b4, b5⟩ | ⟨b1, τ, b2, b3, b4⟩
  · rw [has_1 b1, if_pos rfl, if_pos rfl]
    simp (disch := omega) only [↓rdA_t, ↓wrA_t, ↓ixA_t, ↓wrF_d, ↓bd2_s, ↓bd1_s, ↓bnd_d, ↓iww_t, ↓iww_f, ↓iwl_t, ↓iwl_f, ↓ilw_t, ↓ilw_f, ↓eww_t, ↓eww_f, ↓ewl_t, ↓ewl_f, ↓ez_t, ↓ez_f, ↓il_t, ↓il_f, il_t, il_f, ez_t, ez_f, if_true, if_false, upS_h, upS_o, upS_i, Int.reduceAdd, Int.reduceSub, Int.reduceMul, Int.reduceNeg, wI_id, b2, b4.1.1]
    exact ⟨τ, rfl, b3, b5⟩
  · rw [has_0 b1, if_neg (by omega), if_neg (by omega)]
    simp (disch := omega) only [↓rdA_t, ↓wrA_t, ↓ixA_t, ↓wrF_d, ↓bd2_s, ↓bd1_s, ↓bnd_d, ↓iww_t, ↓iww_f, ↓iwl_t, ↓iwl_f, ↓ilw_t, ↓ilw_f, ↓eww_t, ↓eww_f, ↓ewl_t, ↓ewl_f, ↓ez_t, ↓ez_f, ↓il_t, ↓il_f, il_t, il_f, ez_t, ez_f, if_true, if_false, upS_h, upS_o, upS_i, Int.reduceAdd, Int.reduceSub, Int.reduceMul, Int.reduceNeg, wI_id, b2]
    exact oC_tr b4 (oC_id (oC_no b3))
theorem xc_ways {σ α : St} (h : IC σ α) (hw : WF α) : oC (f_X9_ways σ) σ α (rPr α 3) (aNo α (-1)) := by
  unfold f_X9_ways rPr aNo f_X0_waysOfLeast
  rcases c_find h hw (a := -1) (by omega) with ⟨b1, τ, b2, b3, b4, b5⟩ | ⟨b1, τ, b2, b3, b4⟩
  · rw [has_1 b1, if_pos rfl, if_pos rfl]
    simp (disch := omega) only [↓rdA_t, ↓wrA_t, ↓ixA_t, ↓wrF_d, ↓bd2_s, ↓bd1_s, ↓bnd_d, ↓iww_t, ↓iww_f, ↓iwl_t, ↓iwl_f, ↓ilw_t, ↓ilw_f, ↓eww_t, ↓eww_f, ↓ewl_t, ↓ewl_f, ↓ez_t, ↓ez_f, ↓il_t, ↓il_f, il_t, il_f, ez_t, ez_f, if_true, if_false, upS_h, upS_o, upS_i, Int.reduceAdd, Int.reduceSub, Int.reduceMul, Int.reduceNeg, wI_id, b2, b4.1.2.2.2]
    exact ⟨τ, rfl, b3, b5⟩
  · rw [has_0 b1, if_neg (by omega), if_neg (by omega)]
    simp (disch := omega) only [↓rdA_t, ↓wrA_t, ↓ixA_t, ↓wrF_d, ↓bd2_s, ↓bd1_s, ↓bnd_d, ↓iww_t, ↓iww_f, ↓iwl_t, ↓iwl_f, ↓ilw_t, ↓ilw_f, ↓eww_t, ↓eww_f, ↓ewl_t, ↓ewl_f, ↓ez_t, ↓ez_f, ↓il_t, ↓il_f, il_t, il_f, ez_t, ez_f, if_true, if_false, upS_h, upS_o, upS_i, Int.reduceAdd, Int.reduceSub, Int.reduceMul, Int.reduceNeg, wI_id, b2]
    exact oC_tr b4 (oC_id (oC_no b3))
theorem xc_dearest {σ α : St} (h : IC σ α) (hw : WF α) : oC (f_X9_dearest σ) σ α (rPr α 2) (aNo α (-1)) := by
  unfold f_X9_dearest rPr aNo f_X0_mostPrice
  rcases c_find h hw (a := -1) (by omega) with ⟨b1, τ, b2, b3, b4, b5⟩ | ⟨b1, τ, b2, b3, b4⟩
  · rw [has_1 b1, if_pos rfl, if_pos rfl]
    simp (disch := omega) only [↓rdA_t, ↓wrA_t, ↓ixA_t, ↓wrF_d, ↓bd2_s, ↓bd1_s, ↓bnd_d, ↓iww_t, ↓iww_f, ↓iwl_t, ↓iwl_f, ↓ilw_t, ↓ilw_f, ↓eww_t, ↓eww_f, ↓ewl_t, ↓ewl_f, ↓ez_t, ↓ez_f, ↓il_t, ↓il_f, il_t, il_f, ez_t, ez_f, if_true, if_false, upS_h, upS_o, upS_i, Int.reduceAdd, Int.reduceSub, Int.reduceMul, Int.reduceNeg, wI_id, b2, b4.1.2.2.1]
    exact ⟨τ, rfl, b3, b5⟩
  · rw [has_0 b1, if_neg (by omega), if_neg (by omega)]
    simp (disch := omega) only [↓rdA_t, ↓wrA_t, ↓ixA_t, ↓wrF_d, ↓bd2_s, ↓bd1_s, ↓bnd_d, ↓iww_t, ↓iww_f, ↓iwl_t, ↓iwl_f, ↓ilw_t, ↓ilw_f, ↓eww_t, ↓eww_f, ↓ewl_t, ↓ewl_f, ↓ez_t, ↓ez_f, ↓il_t, ↓il_f, il_t, il_f, ez_t, ez_f, if_true, if_false, upS_h, upS_o, upS_i, Int.reduceAdd, Int.reduceSub, Int.reduceMul, Int.reduceNeg, wI_id, b2]
    exact oC_tr b4 (oC_id (oC_no b3))
theorem xc_next {σ α : St} (h : IC σ α) (hw : WF α) : oC (f_X9_next σ) σ α (rPr α 1) (aNo α (-1)) := by
  unfold f_X9_next rPr aNo f_X0_secondPrice
  rcases c_find h hw (a := -1) (by omega) with ⟨b1, τ, b2, b3, b4, b5⟩ | ⟨b1, τ, b2, b3, b4⟩
  · rw [has_1 b1, if_pos rfl, if_pos rfl]
    have e := b4.1.2.1
    have ok := (tp_ok (kd := α 0 2) hw b1.2 b1.1).2.1
    have ok0 := (tp_ok (kd := α 0 2) hw b1.2 b1.1).1
    unfold far at e
    by_cases c : tp α (-1) (α 0 2) 1 = -1
    · rw [if_pos c] at e
      simp (disch := omega) only [↓rdA_t, ↓wrA_t, ↓ixA_t, ↓wrF_d, ↓bd2_s, ↓bd1_s, ↓bnd_d, ↓iww_t, ↓iww_f, ↓iwl_t, ↓iwl_f, ↓ilw_t, ↓ilw_f, ↓eww_t, ↓eww_f, ↓ewl_t, ↓ewl_f, ↓ez_t, ↓ez_f, ↓il_t, ↓il_f, il_t, il_f, ez_t, ez_f, if_true, if_false, upS_h, upS_o, upS_i, Int.reduceAdd, Int.reduceSub, Int.reduceMul, Int.reduceNeg, wI_id, b2, e]
      rw [c]
      exact ⟨τ, rfl, b3, b5⟩
    · rw [if_neg c, Int.zero_add] at e
      simp (disch := omega) only [↓rdA_t, ↓wrA_t, ↓ixA_t, ↓wrF_d, ↓bd2_s, ↓bd1_s, ↓bnd_d, ↓iww_t, ↓iww_f, ↓iwl_t, ↓iwl_f, ↓ilw_t, ↓ilw_f, ↓eww_t, ↓eww_f, ↓ewl_t, ↓ewl_f, ↓ez_t, ↓ez_f, ↓il_t, ↓il_f, il_t, il_f, ez_t, ez_f, if_true, if_false, upS_h, upS_o, upS_i, Int.reduceAdd, Int.reduceSub, Int.reduceMul, Int.reduceNeg, wI_id, b2, e]
      exact ⟨τ, rfl, b3, b5⟩
  · rw [has_0 b1, if_neg (by omega), if_neg (by omega)]
    simp (disch := omega) only [↓rdA_t, ↓wrA_t, ↓ixA_t, ↓wrF_d, ↓bd2_s, ↓bd1_s, ↓bnd_d, ↓iww_t, ↓iww_f, ↓iwl_t, ↓iwl_f, ↓ilw_t, ↓ilw_f, ↓eww_t, ↓eww_f, ↓ewl_t, ↓ewl_f, ↓ez_t, ↓ez_f, ↓il_t, ↓il_f, il_t, il_f, ez_t, ez_f, if_true, if_false, upS_h, upS_o, upS_i, Int.reduceAdd, Int.reduceSub, Int.reduceMul, Int.reduceNeg, wI_id, b2]
    exact oC_tr b4 (oC_id (oC_no b3))
theorem xm_cost {σ α : St} (h : IM σ α) (hw : WF α) : oM (f_X10_cost σ) σ α (rPr α 0) (aNo α (-1)) := by
  unfold f_X10_cost rPr aNo
  rcases m_now h hw with ⟨b1, τ, b2, b3, b4, b5, b6⟩ | ⟨b1, τ, b2, b3, b4⟩
  · rw [has_1 b1, if_pos rfl, if_pos rfl]
    simp (disch := omega) only [↓rdA_t, ↓wrA_t, ↓ixA_t, ↓wrF_d, ↓bd2_s, ↓bd1_s, ↓bnd_d, ↓iww_t, ↓iww_f, ↓iwl_t, ↓iwl_f, ↓ilw_t, ↓ilw_f, ↓eww_t, ↓eww_f, ↓ewl_t, ↓ewl_f, ↓ez_t, ↓ez_f, ↓il_t, ↓il_f, il_t, il_f, ez_t, ez_f, if_true, if_false, upS_h, upS_o, upS_i, Int.reduceAdd, Int.reduceSub, Int.reduceMul, Int.reduceNeg, wI_id, b2, b3.1.1]
    exact ⟨τ, rfl, b5, b6⟩
  · rw [has_0 b1, if_neg (by omega), if_neg (by omega)]
    simp (disch := omega) only [↓rdA_t, ↓wrA_t, ↓ixA_t, ↓wrF_d, ↓bd2_s, ↓bd1_s, ↓bnd_d, ↓iww_t, ↓iww_f, ↓iwl_t, ↓iwl_f, ↓ilw_t, ↓ilw_f, ↓eww_t, ↓eww_f, ↓ewl_t, ↓ewl_f, ↓ez_t, ↓ez_f, ↓il_t, ↓il_f, il_t, il_f, ez_t, ez_f, if_true, if_false, upS_h, upS_o, upS_i, Int.reduceAdd, Int.reduceSub, Int.reduceMul, Int.reduceNeg, wI_id, b2]
    exact oM_tr b4 (oM_id (oM_no b3))
theorem xm_ways {σ α : St} (h : IM σ α) (hw : WF α) : oM (f_X10_ways σ) σ α (rPr α 3) (aNo α (-1)) := by
  unfold f_X10_ways rPr aNo
  rcases m_now h hw with ⟨b1, τ, b2, b3, b4, b5, b6⟩ | ⟨b1, τ, b2, b3, b4⟩
  · rw [has_1 b1, if_pos rfl, if_pos rfl]
    simp (disch := omega) only [↓rdA_t, ↓wrA_t, ↓ixA_t, ↓wrF_d, ↓bd2_s, ↓bd1_s, ↓bnd_d, ↓iww_t, ↓iww_f, ↓iwl_t, ↓iwl_f, ↓ilw_t, ↓ilw_f, ↓eww_t, ↓eww_f, ↓ewl_t, ↓ewl_f, ↓ez_t, ↓ez_f, ↓il_t, ↓il_f, il_t, il_f, ez_t, ez_f, if_true, if_false, upS_h, upS_o, upS_i, Int.reduceAdd, Int.reduceSub, Int.reduceMul, Int.reduceNeg, wI_id, b2, b3.1.2.2.2]
    exact ⟨τ, rfl, b5, b6⟩
  · rw [has_0 b1, if_neg (by omega), if_neg (by omega)]
    simp (disch := omega) only [↓rdA_t, ↓wrA_t, ↓ixA_t, ↓wrF_d, ↓bd2_s, ↓bd1_s, ↓bnd_d, ↓iww_t, ↓iww_f, ↓iwl_t, ↓iwl_f, ↓ilw_t, ↓ilw_f, ↓eww_t, ↓eww_f, ↓ewl_t, ↓ewl_f, ↓ez_t, ↓ez_f, ↓il_t, ↓il_f, il_t, il_f, ez_t, ez_f, if_true, if_false, upS_h, upS_o, upS_i, Int.reduceAdd, Int.reduceSub, Int.reduceMul, Int.reduceNeg, wI_id, b2]
    exact oM_tr b4 (oM_id (oM_no b3))
theorem xm_next {σ α : St} (h : IM σ α) (hw : WF α) : oM (f_X10_next σ) σ α (rPr α 1) (aNo α (-1)) := by
  unfold f_X10_next rPr aNo
  rcases m_now h hw with ⟨b1, τ, b2, b3, b4, b5, b6⟩ | ⟨b1, τ, b2, b3, b4⟩
  · rw [has_1 b1, if_pos rfl, if_pos rfl]
    simp (disch := omega) only [↓rdA_t, ↓wrA_t, ↓ixA_t, ↓wrF_d, ↓bd2_s, ↓bd1_s, ↓bnd_d, ↓iww_t, ↓iww_f, ↓iwl_t, ↓iwl_f, ↓ilw_t, ↓ilw_f, ↓eww_t, ↓eww_f, ↓ewl_t, ↓ewl_f, ↓ez_t, ↓ez_f, ↓il_t, ↓il_f, il_t, il_f, ez_t, ez_f, if_true, if_false, upS_h, upS_o, upS_i, Int.reduceAdd, Int.reduceSub, Int.reduceMul, Int.reduceNeg, wI_id, b2, b3.1.2.1]
    exact ⟨τ, rfl, b5, b6⟩
  · rw [has_0 b1, if_neg (by omega), if_neg (by omega)]
    simp (disch := omega) only [↓rdA_t, ↓wrA_t, ↓ixA_t, ↓wrF_d, ↓bd2_s, ↓bd1_s, ↓bnd_d, ↓iww_t, ↓iww_f, ↓iwl_t, ↓iwl_f, ↓ilw_t, ↓ilw_f, ↓eww_t, ↓eww_f, ↓ewl_t, ↓ewl_f, ↓ez_t, ↓ez_f, ↓il_t, ↓il_f, il_t, il_f, ez_t, ez_f, if_true, if_false, upS_h, upS_o, upS_i, Int.reduceAdd, Int.reduceSub, Int.reduceMul, Int.reduceNeg, wI_id, b2]
    exact oM_tr b4 (oM_id (oM_no b3))
theorem xm_dearest {σ α : St} (h : IM σ α) (hw : WF α) : oM (f_X10_dearest σ) σ α (rPr α 2) (aNo α (-1)) := by
  unfold f_X10_dearest rPr aNo
  rcases m_now h hw with ⟨b1, τ, b2, b3, b4, b5, b6⟩ | ⟨b1, τ, b2, b3, b4⟩
  · rw [has_1 b1, if_pos rfl, if_pos rfl]
    simp (disch := omega) only [↓rdA_t, ↓wrA_t, ↓ixA_t, ↓wrF_d, ↓bd2_s, ↓bd1_s, ↓bnd_d, ↓iww_t, ↓iww_f, ↓iwl_t, ↓iwl_f, ↓ilw_t, ↓ilw_f, ↓eww_t, ↓eww_f, ↓ewl_t, ↓ewl_f, ↓ez_t, ↓ez_f, ↓il_t, ↓il_f, il_t, il_f, ez_t, ez_f, if_true, if_false, upS_h, upS_o, upS_i, Int.reduceAdd, Int.reduceSub, Int.reduceMul, Int.reduceNeg, wI_id, b2, b3.1.2.2.1]
    exact ⟨τ, rfl, b5, b6⟩
  · rw [has_0 b1, if_neg (by omega), if_neg (by omega)]
    simp (disch := omega) only [↓rdA_t, ↓wrA_t, ↓ixA_t, ↓wrF_d, ↓bd2_s, ↓bd1_s, ↓bnd_d, ↓iww_t, ↓iww_f, ↓iwl_t, ↓iwl_f, ↓ilw_t, ↓ilw_f, ↓eww_t, ↓eww_f, ↓ewl_t, ↓ewl_f, ↓ez_t, ↓ez_f, ↓il_t, ↓il_f, il_t, il_f, ez_t, ez_f, if_true, if_false, upS_h, upS_o, upS_i, Int.reduceAdd, Int.reduceSub, Int.reduceMul, Int.reduceNeg, wI_id, b2]
    exact oM_tr b4 (oM_id (oM_no b3))
end
section
/-! ===== cheapest ===== -/
def chK (α : St) : Nat → Int × Int
  | 0 => (0, 1000000)
  | m + 1 => if tp α (-1) m 0 < (chK α m).2 then ((m : Int), tp α (-1) m 0) else chK α m
theorem chK_r {α : St} (hw : WF α) (hf : allF α (-1)) (hn : 0 < α 0 1) : ∀ m : Nat, (0 ≤ (chK α m).2 ∧ (chK α m).2 ≤ 1000000) ∧ (0 < m → (chK α m).2 ≤ 496) := by
  intro m
  induction m with
  | zero => exact ⟨⟨by show (0 : Int) ≤ 1000000; omega, by show (1000000 : Int) ≤ 1000000; omega⟩, fun z => by omega⟩
  | succ m ih =>
    have ok := (tp_ok (kd := (m : Int)) hw hf hn).1
    rw [chK]
    by_cases c : tp α (-1) m 0 < (chK α m).2
    · rw [if_pos c]; exact ⟨⟨ok.1, by show tp α (-1) m 0 ≤ 1000000; omega⟩, fun _ => ok.2⟩
    · rw [if_neg c]; exact ⟨ih.1, fun _ => by omega⟩
def rCp (α : St) (w : Int) : Int := if 0 ≤ w ∧ w ≤ 1 then (if has α (-1) = 1 then (if w = 0 then (chK α 5).1 else (chK α 5).2) else -3) else -2
def aCp (α : St) (w : Int) : St := if 0 ≤ w ∧ w ≤ 1 then aNo α (-1) else aR α 3
theorem wf_cheap {α : St} {w : Int} (hw : WF α) : WF (aCp α w) := by
  unfold aCp
  by_cases c : 0 ≤ w ∧ w ≤ 1
  · rw [if_pos c]; exact wf_no hw
  · rw [if_neg c]; exact WF_aR 3 (by omega) hw
theorem c_cheap_g {α : St} {w : Int} (kx : St → Int → Int → Option (Int × St)) (hw : WF α) (hf : allF α (-1)) (hn0 : 0 < α 0 1) : ∀ (r x : Nat) (σ : St) (n : Nat), IC σ α → (∀ q, 0 ≤ q → q < α 0 1 → cCh σ α (-1) q) → x + r = 5 → r < n → ∃ τ, lp_X9_cheapest_39 w kx n σ (chK α x).1 (chK α x).2 x = kx τ (chK α (x + r)).1 (chK α (x + r)).2 ∧ IC τ α ∧ ∀ o, 118 ≤ o → τ o = σ o := by
  intro r
  have w2 := hw.2.1.2.1
  induction r with
  | zero =>
    intro x σ n h hc h1 hn
    obtain ⟨n, rfl⟩ : ∃ k, n = k + 1 := ⟨n - 1, by omega⟩
    rw [lp_X9_cheapest_39]
    exact ⟨σ, by simp (disch := omega) only [↓rdA_t, ↓wrA_t, ↓ixA_t, ↓wrF_d, ↓bd2_s, ↓bd1_s, ↓bnd_d, ↓iww_t, ↓iww_f, ↓iwl_t, ↓iwl_f, ↓ilw_t, ↓ilw_f, ↓eww_t, ↓eww_f, ↓ewl_t, ↓ewl_f, ↓ez_t, ↓ez_f, ↓il_t, ↓il_f, il_t, il_f, ez_t, ez_f, if_true, if_false, upS_h, upS_o, upS_i, Int.reduceAdd, Int.reduceSub, Int.reduceMul, Int.reduceNeg, wI_id, Nat.add_zero], h, fun _ _ => rfl⟩
  | succ r ih =>
    intro x σ n h hc h1 hn
    obtain ⟨n, rfl⟩ : ∃ k, n = k + 1 := ⟨n - 1, by omega⟩
    obtain ⟨τ, g1, g2, g3, g4⟩ := c_weigh (kd := (x : Int)) h hw hf hn0 (by omega) hc
    obtain ⟨ρ, f1, f2, f3⟩ := ih (x + 1) τ n (cW_I g4 h) (fun q q1 q2 => cW_C g4 (by omega) (hc q q1 q2)) (by omega) (by omega)
    rw [show x + 1 + r = x + (r + 1) by omega, show ((x + 1 : Nat) : Int) = (x : Int) + 1 by omega] at f1
    have ok := (tp_ok (kd := (x : Int)) hw hf hn0).1
    have rr := (chK_r hw hf hn0 x).1
    refine ⟨ρ, ?_, f2, fun o ho => by rw [f3 o ho, g4 o (by omega)]⟩
    rw [← f1, lp_X9_cheapest_39, chK]
    unfold f_X0_leastPrice
    by_cases c : tp α (-1) x 0 < (chK α x).2
    · rw [if_pos c]
      simp (disch := omega) only [↓rdA_t, ↓wrA_t, ↓ixA_t, ↓wrF_d, ↓bd2_s, ↓bd1_s, ↓bnd_d, ↓iww_t, ↓iww_f, ↓iwl_t, ↓iwl_f, ↓ilw_t, ↓ilw_f, ↓eww_t, ↓eww_f, ↓ewl_t, ↓ewl_f, ↓ez_t, ↓ez_f, ↓il_t, ↓il_f, il_t, il_f, ez_t, ez_f, if_true, if_false, upS_h, upS_o, upS_i, Int.reduceAdd, Int.reduceSub, Int.reduceMul, Int.reduceNeg, wI_id, g1, g3.1]
    · rw [if_neg c]
      simp (disch := omega) only [↓rdA_t, ↓wrA_t, ↓ixA_t, ↓wrF_d, ↓bd2_s, ↓bd1_s, ↓bnd_d, ↓iww_t, ↓iww_f, ↓iwl_t, ↓iwl_f, ↓ilw_t, ↓ilw_f, ↓eww_t, ↓eww_f, ↓ewl_t, ↓ewl_f, ↓ez_t, ↓ez_f, ↓il_t, ↓il_f, il_t, il_f, ez_t, ez_f, if_true, if_false, upS_h, upS_o, upS_i, Int.reduceAdd, Int.reduceSub, Int.reduceMul, Int.reduceNeg, wI_id, g1, g3.1]
theorem xc_cheap {σ α : St} {w : Int} (h : IC σ α) (hw : WF α) (ha : inR w) : oC (f_X9_cheapest σ w) σ α (rCp α w) (aCp α w) := by
  unfold inR at ha
  unfold f_X9_cheapest rCp aCp aNo
  by_cases c : 0 ≤ w ∧ w ≤ 1
  · rw [if_pos c, if_pos c]
    rcases c_all h hw (a := -1) (by omega) with ⟨b1, τ, b2, b3, b4, b5⟩ | ⟨b1, τ, b2, b3, b4⟩
    · rw [has_1 b1, if_pos rfl, if_pos rfl]
      obtain ⟨ρ, f1, f2, f3⟩ := c_cheap_g (w := w) (fun σ17 y18 y19 => some ((if w = 0 then y18 else y19), σ17)) hw b1.2 b1.1 5 0 τ 1000 b3 b4 (by omega) (by omega)
      have e0 : (((0 : Nat)) : Int) = 0 := rfl
      have e1 : (chK α 0).1 = 0 := rfl
      have e2 : (chK α 0).2 = 1000000 := rfl
      rw [e0, e1, e2, Nat.zero_add] at f1
      simp (disch := omega) only [↓rdA_t, ↓wrA_t, ↓ixA_t, ↓wrF_d, ↓bd2_s, ↓bd1_s, ↓bnd_d, ↓iww_t, ↓iww_f, ↓iwl_t, ↓iwl_f, ↓ilw_t, ↓ilw_f, ↓eww_t, ↓eww_f, ↓ewl_t, ↓ewl_f, ↓ez_t, ↓ez_f, ↓il_t, ↓il_f, il_t, il_f, ez_t, ez_f, if_true, if_false, upS_h, upS_o, upS_i, Int.reduceAdd, Int.reduceSub, Int.reduceMul, Int.reduceNeg, wI_id, within_t, b2]
      exact ⟨ρ, f1, f2, fun o ho => by rw [f3 o ho, b5 o (by omega)]⟩
    · rw [has_0 b1, if_neg (show ¬ (0 : Int) = 1 by omega), if_neg (show ¬ (0 : Int) = 1 by omega)]
      simp (disch := omega) only [↓rdA_t, ↓wrA_t, ↓ixA_t, ↓wrF_d, ↓bd2_s, ↓bd1_s, ↓bnd_d, ↓iww_t, ↓iww_f, ↓iwl_t, ↓iwl_f, ↓ilw_t, ↓ilw_f, ↓eww_t, ↓eww_f, ↓ewl_t, ↓ewl_f, ↓ez_t, ↓ez_f, ↓il_t, ↓il_f, il_t, il_f, ez_t, ez_f, if_true, if_false, upS_h, upS_o, upS_i, Int.reduceAdd, Int.reduceSub, Int.reduceMul, Int.reduceNeg, wI_id, within_t, b2]
      exact oC_tr (fun o ho => b4 o (by omega)) (oC_id (oC_no b3))
  · rw [if_neg c, if_neg c]
    simp (disch := omega) only [↓rdA_t, ↓wrA_t, ↓ixA_t, ↓wrF_d, ↓bd2_s, ↓bd1_s, ↓bnd_d, ↓iww_t, ↓iww_f, ↓iwl_t, ↓iwl_f, ↓ilw_t, ↓ilw_f, ↓eww_t, ↓eww_f, ↓ewl_t, ↓ewl_f, ↓ez_t, ↓ez_f, ↓il_t, ↓il_f, il_t, il_f, ez_t, ez_f, if_true, if_false, upS_h, upS_o, upS_i, Int.reduceAdd, Int.reduceSub, Int.reduceMul, Int.reduceNeg, wI_id, within_f]
    exact oC_id (oC_bad h)

theorem m_cheap_g {α : St} {w : Int} (kx : St → Int → Int → Option (Int × St)) (hw : WF α) (hf : allF α (-1)) (hn0 : 0 < α 0 1) : ∀ (r x : Nat) (σ : St) (n : Nat), IM σ α → x + r = 5 → r < n → ∃ τ, lp_X10_cheapest_36 w kx n σ (chK α x).1 (if x = 0 then -1 else (chK α x).2) x = kx τ (chK α (x + r)).1 (if x + r = 0 then -1 else (chK α (x + r)).2) ∧ IM τ α ∧ ∀ o, o < 118 → τ o = σ o := by
  intro r
  have w2 := hw.2.1.2.1
  induction r with
  | zero =>
    intro x σ n h h1 hn
    obtain ⟨n, rfl⟩ : ∃ k, n = k + 1 := ⟨n - 1, by omega⟩
    rw [lp_X10_cheapest_36]
    exact ⟨σ, by rw [iwl_f (by omega)]; rfl, h, fun _ _ => rfl⟩
  | succ r ih =>
    intro x σ n h h1 hn
    obtain ⟨n, rfl⟩ : ∃ k, n = k + 1 := ⟨n - 1, by omega⟩
    rcases m_chains (kd := (x : Int)) (JM_of h) hw h.2.2.1.2.2.2.2.2 (by omega) (by omega) with ⟨b1, τ, b2, b3, b4⟩ | ⟨b1, _⟩
    · obtain ⟨ρ, f1, f2, f3⟩ := ih (x + 1) τ n (mSc_I b4 h) (by omega) (by omega)
      rw [show x + 1 + r = x + (r + 1) by omega, show ((x + 1 : Nat) : Int) = (x : Int) + 1 by omega, if_neg (show ¬ x + 1 = 0 by omega)] at f1
      have ok := (tp_ok (kd := (x : Int)) hw hf hn0).1
      have rr := chK_r hw hf hn0 x
      refine ⟨ρ, ?_, f2, fun o ho => by rw [f3 o ho, b4.1 o (by omega)]⟩
      rw [← f1, lp_X10_cheapest_36, chK]
      have e := b3.1.1
      by_cases c : x = 0
      · subst c
        have e2 : (chK α 0).2 = 1000000 := rfl
        rw [if_pos rfl, if_pos (show tp α (-1) ((0 : Nat) : Int) 0 < (chK α 0).2 by rw [e2]; omega)]
        simp (disch := omega) only [↓rdA_t, ↓wrA_t, ↓ixA_t, ↓wrF_d, ↓bd2_s, ↓bd1_s, ↓bnd_d, ↓iww_t, ↓iww_f, ↓iwl_t, ↓iwl_f, ↓ilw_t, ↓ilw_f, ↓eww_t, ↓eww_f, ↓ewl_t, ↓ewl_f, ↓ez_t, ↓ez_f, ↓il_t, ↓il_f, il_t, il_f, ez_t, ez_f, if_true, if_false, upS_h, upS_o, upS_i, Int.reduceAdd, Int.reduceSub, Int.reduceMul, Int.reduceNeg, wI_id, b2, e]
      · rw [if_neg c]
        have rr2 := rr.2 (by omega)
        by_cases c2 : tp α (-1) x 0 < (chK α x).2
        · rw [if_pos c2]
          simp (disch := omega) only [↓rdA_t, ↓wrA_t, ↓ixA_t, ↓wrF_d, ↓bd2_s, ↓bd1_s, ↓bnd_d, ↓iww_t, ↓iww_f, ↓iwl_t, ↓iwl_f, ↓ilw_t, ↓ilw_f, ↓eww_t, ↓eww_f, ↓ewl_t, ↓ewl_f, ↓ez_t, ↓ez_f, ↓il_t, ↓il_f, il_t, il_f, ez_t, ez_f, if_true, if_false, upS_h, upS_o, upS_i, Int.reduceAdd, Int.reduceSub, Int.reduceMul, Int.reduceNeg, wI_id, b2, e]
        · rw [if_neg c2]
          simp (disch := omega) only [↓rdA_t, ↓wrA_t, ↓ixA_t, ↓wrF_d, ↓bd2_s, ↓bd1_s, ↓bnd_d, ↓iww_t, ↓iww_f, ↓iwl_t, ↓iwl_f, ↓ilw_t, ↓ilw_f, ↓eww_t, ↓eww_f, ↓ewl_t, ↓ewl_f, ↓ez_t, ↓ez_f, ↓il_t, ↓il_f, il_t, il_f, ez_t, ez_f, if_true, if_false, upS_h, upS_o, upS_i, Int.reduceAdd, Int.reduceSub, Int.reduceMul, Int.reduceNeg, wI_id, b2, e]
    · exact absurd ⟨hn0, hf⟩ b1
theorem xm_cheap {σ α : St} {w : Int} (h : IM σ α) (hw : WF α) (ha : inR w) : oM (f_X10_cheapest σ w) σ α (rCp α w) (aCp α w) := by
  unfold inR at ha
  unfold f_X10_cheapest rCp aCp aNo
  by_cases c : 0 ≤ w ∧ w ≤ 1
  · rw [if_pos c, if_pos c]
    rcases m_now h hw with ⟨b1, τ, b2, b3, b4, b5, b6⟩ | ⟨b1, τ, b2, b3, b4⟩
    · rw [has_1 b1, if_pos rfl, if_pos rfl]
      obtain ⟨ρ, f1, f2, f3⟩ := m_cheap_g (w := w) (fun σ25 y26 y27 => some ((if w = 0 then y26 else y27), σ25)) hw b1.2 b1.1 5 0 τ 1000 b5 (by omega) (by omega)
      have e0 : (((0 : Nat)) : Int) = 0 := rfl
      have e1 : (chK α 0).1 = 0 := rfl
      rw [if_pos rfl, if_neg (show ¬ 0 + 5 = 0 by omega), e0, e1, Nat.zero_add] at f1
      simp (disch := omega) only [↓rdA_t, ↓wrA_t, ↓ixA_t, ↓wrF_d, ↓bd2_s, ↓bd1_s, ↓bnd_d, ↓iww_t, ↓iww_f, ↓iwl_t, ↓iwl_f, ↓ilw_t, ↓ilw_f, ↓eww_t, ↓eww_f, ↓ewl_t, ↓ewl_f, ↓ez_t, ↓ez_f, ↓il_t, ↓il_f, il_t, il_f, ez_t, ez_f, if_true, if_false, upS_h, upS_o, upS_i, Int.reduceAdd, Int.reduceSub, Int.reduceMul, Int.reduceNeg, wI_id, in_t, b2]
      exact ⟨ρ, f1, f2, fun o ho => by rw [f3 o ho, b6 o ho]⟩
    · rw [has_0 b1, if_neg (show ¬ (0 : Int) = 1 by omega), if_neg (show ¬ (0 : Int) = 1 by omega)]
      simp (disch := omega) only [↓rdA_t, ↓wrA_t, ↓ixA_t, ↓wrF_d, ↓bd2_s, ↓bd1_s, ↓bnd_d, ↓iww_t, ↓iww_f, ↓iwl_t, ↓iwl_f, ↓ilw_t, ↓ilw_f, ↓eww_t, ↓eww_f, ↓ewl_t, ↓ewl_f, ↓ez_t, ↓ez_f, ↓il_t, ↓il_f, il_t, il_f, ez_t, ez_f, if_true, if_false, upS_h, upS_o, upS_i, Int.reduceAdd, Int.reduceSub, Int.reduceMul, Int.reduceNeg, wI_id, in_t, b2]
      exact oM_tr b4 (oM_id (oM_no b3))
  · rw [if_neg c, if_neg c]
    simp (disch := omega) only [↓rdA_t, ↓wrA_t, ↓ixA_t, ↓wrF_d, ↓bd2_s, ↓bd1_s, ↓bnd_d, ↓iww_t, ↓iww_f, ↓iwl_t, ↓iwl_f, ↓ilw_t, ↓ilw_f, ↓eww_t, ↓eww_f, ↓ewl_t, ↓ewl_f, ↓ez_t, ↓ez_f, ↓il_t, ↓il_f, il_t, il_f, ez_t, ez_f, if_true, if_false, upS_h, upS_o, upS_i, Int.reduceAdd, Int.reduceSub, Int.reduceMul, Int.reduceNeg, wI_id, in_f]
    exact oM_id (oM_bad (-2) h)
end
section
/-! ===== without ===== -/
theorem bst_mono {α : St} {a k s : Int} (hw : wT α) (h : 0 ≤ bst α a k s) : 0 ≤ bst α (-1) k s := by
  obtain ⟨u, u1, u2⟩ := (bst_p (a := a) (k := k) (s := s) hw).2.2 h
  have g := (bst_p (a := -1) (k := k) (s := s) hw).2.1 u u1 (by omega) u2.2.1
  have r := (ag_p (u := u) (k := k) hw).1
  omega
theorem rn_mono {α : St} {a k : Int} (hw : wT α) : ∀ (m : Nat) (s M x t : Int), (rnG α a k m s M x t).1 = 1 → (rnG α (-1) k m s M x t).1 = 1 := by
  intro m
  induction m with
  | zero => intro s M x t h; rw [rnG] at h; simp at h
  | succ m ih =>
    intro s M x t h
    rw [rnG] at h ⊢
    by_cases c : bt M s = 0
    · rw [if_pos c] at h ⊢
      by_cases c2 : 0 ≤ bst α (-1) k s
      · rw [if_pos c2]
      · rw [if_neg c2]
        rw [if_neg (fun z => c2 (bst_mono hw z))] at h
        exact ih _ _ _ _ h
    · rw [if_neg c] at h; simp at h
theorem has_mono {α : St} {a : Int} (hw : WF α) (h : 0 < α 0 1 ∧ allF α a) : 0 < α 0 1 ∧ allF α (-1) := ⟨h.1, fun k k1 k2 => rn_mono hw.2.2.2.2 6 _ _ _ _ (h.2 k k1 k2)⟩
def rWo (α : St) (u : Int) : Int := if 0 ≤ u ∧ u < α 0 0 then (if has α u = 1 then tp α u (α 0 2) 0 else -3) else -2
def aWo (α : St) (u : Int) : St := if 0 ≤ u ∧ u < α 0 0 then aNo α u else aR α 3
theorem wf_wo {α : St} {u : Int} (hw : WF α) : WF (aWo α u) := by
  unfold aWo
  by_cases c : 0 ≤ u ∧ u < α 0 0
  · rw [if_pos c]; exact wf_no hw
  · rw [if_neg c]; exact WF_aR 3 (by omega) hw
theorem xc_without {σ α : St} {u : Int} (h : IC σ α) (hw : WF α) (hu : inR u) : oC (f_X9_without σ u) σ α (rWo α u) (aWo α u) := by
  have w3 := hw.1.2.1
  unfold f_X9_without rWo aWo aNo f_X0_leastPrice
  rw [c_isU h.1 hw.1 hu]
  by_cases c : 0 ≤ u ∧ u < α 0 0
  · rw [if_pos c, if_pos c, if_pos c]
    rcases c_find h hw (a := u) (by omega) with ⟨b1, τ, b2, b3, b4, b5⟩ | ⟨b1, τ, b2, b3, b4⟩
    · rw [has_1 b1, if_pos rfl, if_pos rfl]
      simp (disch := omega) only [↓rdA_t, ↓wrA_t, ↓ixA_t, ↓wrF_d, ↓bd2_s, ↓bd1_s, ↓bnd_d, ↓iww_t, ↓iww_f, ↓iwl_t, ↓iwl_f, ↓ilw_t, ↓ilw_f, ↓eww_t, ↓eww_f, ↓ewl_t, ↓ewl_f, ↓ez_t, ↓ez_f, ↓il_t, ↓il_f, il_t, il_f, ez_t, ez_f, if_true, if_false, upS_h, upS_o, upS_i, Int.reduceAdd, Int.reduceSub, Int.reduceMul, Int.reduceNeg, wI_id, b2, b4.1.1]
      exact ⟨τ, rfl, b3, b5⟩
    · rw [has_0 b1, if_neg (show ¬ (0 : Int) = 1 by omega), if_neg (show ¬ (0 : Int) = 1 by omega)]
      simp (disch := omega) only [↓rdA_t, ↓wrA_t, ↓ixA_t, ↓wrF_d, ↓bd2_s, ↓bd1_s, ↓bnd_d, ↓iww_t, ↓iww_f, ↓iwl_t, ↓iwl_f, ↓ilw_t, ↓ilw_f, ↓eww_t, ↓eww_f, ↓ewl_t, ↓ewl_f, ↓ez_t, ↓ez_f, ↓il_t, ↓il_f, il_t, il_f, ez_t, ez_f, if_true, if_false, upS_h, upS_o, upS_i, Int.reduceAdd, Int.reduceSub, Int.reduceMul, Int.reduceNeg, wI_id, b2]
      exact oC_tr b4 (oC_id (oC_no b3))
  · rw [if_neg c, if_neg c, if_neg c]
    simp (disch := omega) only [↓rdA_t, ↓wrA_t, ↓ixA_t, ↓wrF_d, ↓bd2_s, ↓bd1_s, ↓bnd_d, ↓iww_t, ↓iww_f, ↓iwl_t, ↓iwl_f, ↓ilw_t, ↓ilw_f, ↓eww_t, ↓eww_f, ↓ewl_t, ↓ewl_f, ↓ez_t, ↓ez_f, ↓il_t, ↓il_f, il_t, il_f, ez_t, ez_f, if_true, if_false, upS_h, upS_o, upS_i, Int.reduceAdd, Int.reduceSub, Int.reduceMul, Int.reduceNeg, wI_id]
    exact oC_id (oC_bad h)
theorem xm_without {σ α : St} {u : Int} (h : IM σ α) (hw : WF α) (hu : inR u) : oM (f_X10_without σ u) σ α (rWo α u) (aWo α u) := by
  have w3 := hw.1.2.1
  unfold f_X10_without rWo aWo aNo
  rw [m_isU h.1 hw.1 hu]
  by_cases c : 0 ≤ u ∧ u < α 0 0
  · rw [if_pos c, if_pos c, if_pos c]
    rcases m_now h hw with ⟨b1, τ, b2, b3, b4, b5, b6⟩ | ⟨b1, τ, b2, b3, b4⟩
    · have hJ : JM (upS τ 118 27 u) α := JM_scr (fun i hi => upS_i (by omega)) (fun o o1 o2 => upS_of (by omega)) (JM_of b5)
      have ek : upS τ 118 27 u 118 5 = α 0 2 := hJ.2.2.1.1
      have back : ∀ ρ : St, mSc (upS τ 118 27 u) ρ → IM (upS ρ 118 27 (-1)) α ∧ ∀ o, o < 118 → upS ρ 118 27 (-1) o = σ o := fun ρ hs => by
        refine ⟨IM_scr (σ := τ) (fun i hi => ?_) (fun o o1 o2 => by rw [upS_of (by omega), hs.1 o (by omega), upS_of (by omega)]) b5, fun o ho => by rw [upS_of (by omega), hs.1 o (by omega), upS_of (by omega), b6 o ho]⟩
        by_cases c2 : i = 27
        · subst c2; rw [upS_h ⟨rfl, rfl⟩]; exact b5.2.2.1.2.2.2.2.2.symm
        · rw [upS_i c2, hs.2 i (by unfold mF at hi; omega) (by unfold mF at hi; omega) (by unfold mF at hi; omega), upS_i c2]
      rw [if_neg (by omega), b2, bd2_s, if_neg (by omega), wrF_d, ek]
      rcases m_chains hJ hw (upS_h ⟨rfl, rfl⟩) (by omega) hw.2.2.1.1 with ⟨d1, ρ, d2, d3, d4⟩ | ⟨d1, ρ, d2, d3⟩
      · rw [has_1 d1, if_pos rfl, if_pos rfl, d2, bd2_s, wrF_d, if_neg (by omega)]
        refine ⟨_, ?_, back ρ d4⟩
        rw [upS_i (by omega), d3.1.1]
      · rw [has_0 d1, if_neg (show ¬ (0 : Int) = 1 by omega), if_neg (show ¬ (0 : Int) = 1 by omega), d2, bd2_s, wrF_d, if_pos rfl]
        exact oM_tr (back ρ d3).2 (oM_id (oM_no (back ρ d3).1))
    · rw [has_0 (fun z => b1 (has_mono hw z)), if_neg (show ¬ (0 : Int) = 1 by omega), if_neg (show ¬ (0 : Int) = 1 by omega)]
      simp (disch := omega) only [↓rdA_t, ↓wrA_t, ↓ixA_t, ↓wrF_d, ↓bd2_s, ↓bd1_s, ↓bnd_d, ↓iww_t, ↓iww_f, ↓iwl_t, ↓iwl_f, ↓ilw_t, ↓ilw_f, ↓eww_t, ↓eww_f, ↓ewl_t, ↓ewl_f, ↓ez_t, ↓ez_f, ↓il_t, ↓il_f, il_t, il_f, ez_t, ez_f, if_true, if_false, upS_h, upS_o, upS_i, Int.reduceAdd, Int.reduceSub, Int.reduceMul, Int.reduceNeg, wI_id, b2]
      exact oM_tr b4 (oM_id (oM_no b3))
  · rw [if_neg c, if_neg c, if_neg c]
    simp (disch := omega) only [↓rdA_t, ↓wrA_t, ↓ixA_t, ↓wrF_d, ↓bd2_s, ↓bd1_s, ↓bnd_d, ↓iww_t, ↓iww_f, ↓iwl_t, ↓iwl_f, ↓ilw_t, ↓ilw_f, ↓eww_t, ↓eww_f, ↓ewl_t, ↓ewl_f, ↓ez_t, ↓ez_f, ↓il_t, ↓il_f, il_t, il_f, ez_t, ez_f, if_true, if_false, upS_h, upS_o, upS_i, Int.reduceAdd, Int.reduceSub, Int.reduceMul, Int.reduceNeg, wI_id]
    exact oM_id (oM_bad (-2) h)
end
section
/-! ===== the cheapest chain, laid by the reference ===== -/
theorem fv_p {D : Int → Int → Int} {jt : Int → Int} {B : Int} {n : Nat} (hD : ∀ i : Nat, i < n → okE B (D 0 i) (D 1 i) (D 2 i) (D 3 i)) (hj : ∀ i : Nat, i < n → 0 ≤ jt i ∧ jt i ≤ 16) : ∀ j : Nat, 0 < j → j ≤ n → fd D jt j 0 = D 0 (fv D jt j) + jt (fv D jt j) ∧ (∀ i : Nat, (i : Int) < fv D jt j → fd D jt j 0 < D 0 i + jt i) ∧ ∀ i : Nat, i < j → fd D jt j 0 ≤ D 0 i + jt i := by
  intro j
  induction j with
  | zero => intro h _; omega
  | succ j ih =>
    intro _ hn
    have okf := (fd_ok hD hj j (by omega)).1
    have oke := hD j (by omega)
    have hjj := hj j (by omega)
    have oke' : okE (B + 16) (D 0 j) (D 1 j) (D 2 j) (D 3 j) := by
      obtain ⟨o1, o2, o3, o4⟩ := oke
      exact ⟨by omega, by omega, by omega, o4⟩
    have t := (t_e okf oke' hjj.1).1
    rw [fd_s.1, t, fv]
    by_cases c : fd D jt j 0 = -1 ∨ D 0 j + jt j < fd D jt j 0
    · rw [if_pos c, if_pos c]
      have low : ∀ i : Nat, i < j → D 0 j + jt j < D 0 i + jt i := fun i hi => by
        have okj := (fd_ok hD hj j (by omega)).2 (by omega)
        have b0 := okj.1
        obtain ⟨g1, g2, g3⟩ := ih (by omega) (by omega)
        have := g3 i hi
        omega
      refine ⟨rfl, fun i hi => low i (by omega), fun i hi => ?_⟩
      by_cases c2 : i = j
      · subst c2; omega
      · have := low i (by omega); omega
    · rw [if_neg c, if_neg c]
      have c2 : ¬ j = 0 := fun z => c (Or.inl (by subst z; rfl))
      obtain ⟨g1, g2, g3⟩ := ih (by omega) (by omega)
      refine ⟨g1, g2, fun i hi => ?_⟩
      by_cases c3 : i = j
      · subst c3; omega
      · exact g3 i (by omega)
theorem m_27 {σ α : St} {a kd k W p v : Int} {J : Int → Int} {m : Nat} (kx : St → Int → Option (Int × St)) (h : JM σ α) (hw : WF α) (hf : allF α a) (h0 : 0 ≤ k) (hk : k = α 0 1 - 1 - (m : Nat)) (hc : mCh σ α a k) (hv : ∀ i, 0 ≤ i → i < nCh α a k → mV σ α a kd k m i) (hJ : (k = 0 ∧ ∀ x, J x = 0) ∨ (0 < k ∧ σ 141 (k - 1) = p ∧ (0 ≤ p ∧ p < α 0 0) ∧ ∀ x, J x = joiS α p (uCh α a k x))) (hJr : ∀ i, 0 ≤ i → i < nCh α a k → 0 ≤ J i ∧ J i ≤ 16) (hW : 0 ≤ W ∧ W ≤ 2000) (hv0 : 0 ≤ v ∧ v < nCh α a k) (hv1 : dp α a kd m 0 v + J v = W) (hv2 : ∀ i : Nat, (i : Int) < v → W < dp α a kd m 0 i + J i) : ∀ (x : Nat) (y : Int) (n : Nat), (x : Int) ≤ nCh α a k → ((x : Int) ≤ v → y = v) → x < n → lp_X10_layChain_27 W k kx n σ y ((x : Int) - 1) = kx σ v := by
  intro x
  have w2 := hw.2.1.2.1
  have w3 := hw.1.2.1
  have n0 := nCh_r hw h0 (show k < α 0 1 by omega) (hf k h0 (by omega))
  induction x with
  | zero =>
    intro y n h1 h2 hn
    obtain ⟨n, rfl⟩ : ∃ k, n = k + 1 := ⟨n - 1, by omega⟩
    rw [h2 (by omega), lp_X10_layChain_27, iwl_t (by omega)]
  | succ x ih =>
    intro y n h1 h2 hn
    obtain ⟨n, rfl⟩ : ∃ k, n = k + 1 := ⟨n - 1, by omega⟩
    have u := uCh_r (a := a) (k := k) (i := (x : Int)) hw (by omega) (by omega)
    have ok := dp_ok (kd := kd) hw hf m k hk h0 x (by omega)
    have o1 := ok.1
    have jr := hJr x (by omega) (by omega)
    have e1 := (hv x (by omega) (by omega)).1
    have e2 := hc.2 x (by omega) (by omega)
    have ex : ((x + 1 : Nat) : Int) - 1 = x := by omega
    rw [ex]
    -- the new keep
    have key : ∀ y' : Int, (dp α a kd m 0 x + J x = W → y' = x) → (¬ dp α a kd m 0 x + J x = W → y' = y) → lp_X10_layChain_27 W k kx n σ y' ((x : Int) + (-1)) = kx σ v := by
      intro y' k1 k2
      rw [show (x : Int) + (-1) = (x : Int) - 1 by omega]
      refine ih y' n (by omega) (fun hx => ?_) (by omega)
      by_cases c : (x : Int) = v
      · rw [← c] at hv1
        rw [k1 hv1, c]
      · have := hv2 x (by omega)
        rw [k2 (by omega)]
        exact h2 (by omega)
    rw [lp_X10_layChain_27, iwl_f (by omega), bnd_d]
    unfold jn_X10_layChain_68
    rcases hJ with ⟨q1, q2⟩ | ⟨q1, q2, q3, q4⟩
    · rw [ewl_t (by omega)]
      have q5 := q2 x
      by_cases c : dp α a kd m 0 x + J x = W
      · have g := key x (fun _ => rfl) (fun z => absurd c z)
        simp (disch := omega) only [↓rdA_t, ↓wrA_t, ↓ixA_t, ↓wrF_d, ↓bd2_s, ↓bd1_s, ↓bnd_d, ↓iww_t, ↓iww_f, ↓iwl_t, ↓iwl_f, ↓ilw_t, ↓ilw_f, ↓eww_t, ↓eww_f, ↓ewl_t, ↓ewl_f, ↓ez_t, ↓ez_f, ↓il_t, ↓il_f, il_t, il_f, ez_t, ez_f, if_true, if_false, upS_h, upS_o, upS_i, Int.reduceAdd, Int.reduceSub, Int.reduceMul, Int.reduceNeg, wI_id, e1]
        exact g
      · have g := key y (fun z => absurd z c) (fun _ => rfl)
        simp (disch := omega) only [↓rdA_t, ↓wrA_t, ↓ixA_t, ↓wrF_d, ↓bd2_s, ↓bd1_s, ↓bnd_d, ↓iww_t, ↓iww_f, ↓iwl_t, ↓iwl_f, ↓ilw_t, ↓ilw_f, ↓eww_t, ↓eww_f, ↓ewl_t, ↓ewl_f, ↓ez_t, ↓ez_f, ↓il_t, ↓il_f, il_t, il_f, ez_t, ez_f, if_true, if_false, upS_h, upS_o, upS_i, Int.reduceAdd, Int.reduceSub, Int.reduceMul, Int.reduceNeg, wI_id, e1]
        exact g
    · rw [ewl_f (by omega), rdA_t (by omega), rdA_t (by omega), q2, e2, m_joint h.1 hw.1 q3.1 q3.2 u.1.1 u.1.2, bd1_s, ← q4 x]
      by_cases c : dp α a kd m 0 x + J x = W
      · have g := key x (fun _ => rfl) (fun z => absurd c z)
        simp (disch := omega) only [↓rdA_t, ↓wrA_t, ↓ixA_t, ↓wrF_d, ↓bd2_s, ↓bd1_s, ↓bnd_d, ↓iww_t, ↓iww_f, ↓iwl_t, ↓iwl_f, ↓ilw_t, ↓ilw_f, ↓eww_t, ↓eww_f, ↓ewl_t, ↓ewl_f, ↓ez_t, ↓ez_f, ↓il_t, ↓il_f, il_t, il_f, ez_t, ez_f, if_true, if_false, upS_h, upS_o, upS_i, Int.reduceAdd, Int.reduceSub, Int.reduceMul, Int.reduceNeg, wI_id, e1]
        exact g
      · have g := key y (fun z => absurd z c) (fun _ => rfl)
        simp (disch := omega) only [↓rdA_t, ↓wrA_t, ↓ixA_t, ↓wrF_d, ↓bd2_s, ↓bd1_s, ↓bnd_d, ↓iww_t, ↓iww_f, ↓iwl_t, ↓iwl_f, ↓ilw_t, ↓ilw_f, ↓eww_t, ↓eww_f, ↓ewl_t, ↓ewl_f, ↓ez_t, ↓ez_f, ↓il_t, ↓il_f, il_t, il_f, ez_t, ez_f, if_true, if_false, upS_h, upS_o, upS_i, Int.reduceAdd, Int.reduceSub, Int.reduceMul, Int.reduceNeg, wI_id, e1]
        exact g
/-- the price that the rest of the chain must have -/
def wnt (α : St) (a kd : Int) : Nat → Int
  | 0 => tp α a kd 0
  | k + 1 => dp α a kd (α 0 1 - 1 - (k : Nat)).toNat 0 (ixs α a kd k) - fitS α kd (uCh α a k (ixs α a kd k)) k
theorem m_lay_g {α : St} {a kd : Int} (kx : St → Option (Int × St)) (hw : WF α) (hf : allF α a) (hkd : 0 ≤ kd ∧ kd ≤ 4) : ∀ (r x : Nat) (σ : St) (n : Nat), JM σ α → σ 118 39 = kd → (∀ q, 0 ≤ q → q < α 0 1 → mCh σ α a q) → (∀ q, 0 ≤ q → q < α 0 1 → ∀ i, 0 ≤ i → i < nCh α a q → mV σ α a kd q (α 0 1 - 1 - q).toNat i) → (x : Int) + r = α 0 1 → (∀ j : Int, 0 ≤ j → j < x → σ 141 j = pth α a kd j) → r < n → ∃ τ, lp_X10_layChain_7 kx n σ (wnt α a kd x) x = kx τ ∧ (∀ j, 0 ≤ j → j < α 0 1 → τ 141 j = pth α a kd j) ∧ ∀ o, ¬ o = 141 → τ o = σ o := by
  intro r
  have w2 := hw.2.1.2.1
  have w3 := hw.1.2.1
  induction r with
  | zero =>
    intro x σ n h h39 hc hv h1 hp hn
    obtain ⟨n, rfl⟩ : ∃ k, n = k + 1 := ⟨n - 1, by omega⟩
    have hs := h.2.1.1
    rw [lp_X10_layChain_7]
    exact ⟨σ, by simp (disch := omega) only [↓rdA_t, ↓wrA_t, ↓ixA_t, ↓wrF_d, ↓bd2_s, ↓bd1_s, ↓bnd_d, ↓iww_t, ↓iww_f, ↓iwl_t, ↓iwl_f, ↓ilw_t, ↓ilw_f, ↓eww_t, ↓eww_f, ↓ewl_t, ↓ewl_f, ↓ez_t, ↓ez_f, ↓il_t, ↓il_f, il_t, il_f, ez_t, ez_f, if_true, if_false, upS_h, upS_o, upS_i, Int.reduceAdd, Int.reduceSub, Int.reduceMul, Int.reduceNeg, wI_id], fun k k1 k2 => hp k k1 (by omega), fun _ _ => rfl⟩
  | succ r ih =>
    intro x σ n h h39 hc hv h1 hp hn
    obtain ⟨n, rfl⟩ : ∃ k, n = k + 1 := ⟨n - 1, by omega⟩
    have hs := h.2.1.1
    have ir := ixs_r (kd := kd) hw hf x (by omega)
    have n0 := nCh_r hw (show (0 : Int) ≤ (x : Int) by omega) (by omega) (hf x (by omega) (by omega))
    have hcx := hc x (by omega) (by omega)
    have hvx := hv x (by omega) (by omega)
    have u := uCh_r (a := a) (k := (x : Int)) (i := ixs α a kd x) hw ir.1 ir.2
    have fr := fitS_r (a := kd) hw u.1.1 u.1.2 (show (0 : Int) ≤ x by omega) (by omega)
    have ef := m_fit h hw hkd u.1.1 u.1.2 (show (0 : Int) ≤ x by omega) (by omega)
    have ep : pth α a kd x = uCh α a x (ixs α a kd x) := by unfold pth; rw [show ((x : Int)).toNat = x by omega]
    have e4 := hcx.2 (ixs α a kd x) ir.1 ir.2
    have e5 := (hvx (ixs α a kd x) ir.1 ir.2).1
    have hD : ∀ i : Nat, i < (nCh α a x).toNat → okE (60 * (((α 0 1 - 1 - (x : Nat)).toNat : Int) + 1)) (dp α a kd (α 0 1 - 1 - (x : Nat)).toNat 0 i) (dp α a kd (α 0 1 - 1 - (x : Nat)).toNat 1 i) (dp α a kd (α 0 1 - 1 - (x : Nat)).toNat 2 i) (dp α a kd (α 0 1 - 1 - (x : Nat)).toNat 3 i) := fun i hi => dp_ok hw hf _ x (by omega) (by omega) i (by omega)
    -- the inner loop finds the entry of the path
    have inner : ∀ kx' : St → Int → Option (Int × St), lp_X10_layChain_27 (wnt α a kd x) x kx' 1000 σ (-1) (nCh α a x - 1) = kx' σ (ixs α a kd x) := by
      intro kx'
      have en : nCh α a x - 1 = (((nCh α a x).toNat : Nat) : Int) - 1 := by omega
      rw [en]
      cases x with
      | zero =>
        have hJr : ∀ i : Nat, i < (nCh α a ((0 : Nat) : Int)).toNat → 0 ≤ (fun _ : Int => (0 : Int)) (i : Int) ∧ (fun _ : Int => (0 : Int)) (i : Int) ≤ 16 := fun i hi => by show (0 : Int) ≤ 0 ∧ (0 : Int) ≤ 16; omega
        obtain ⟨g1, g2, g3⟩ := fv_p (jt := fun _ : Int => (0 : Int)) hD hJr (nCh α a ((0 : Nat) : Int)).toNat (by omega) (by omega)
        have ok := (fd_ok (jt := fun _ : Int => (0 : Int)) hD hJr (nCh α a ((0 : Nat) : Int)).toNat (by omega)).2 (by omega)
        have em : (α 0 1 - 1 - ((0 : Nat) : Int)).toNat = (α 0 1 - 1).toNat := by omega
        rw [em] at g1 g2 g3 ok hvx
        have ew : wnt α a kd 0 = fd (dp α a kd (α 0 1 - 1).toNat) (fun _ : Int => (0 : Int)) (nCh α a ((0 : Nat) : Int)).toNat 0 := rfl
        rw [ew]
        exact m_27 (a := a) (kd := kd) (p := 0) (J := fun _ => 0) (m := (α 0 1 - 1).toNat) kx' h hw hf (by omega) (by omega) hcx hvx (Or.inl ⟨rfl, fun _ => rfl⟩) (fun i _ _ => by omega) (by have := ok.1; omega) ir g1.symm g2 _ _ _ (by omega) (by omega) (by omega)
      | succ k =>
        have ik := ixs_r (kd := kd) hw hf k (by omega)
        have uk := uCh_r (a := a) (k := (k : Int)) (i := ixs α a kd k) hw ik.1 ik.2
        obtain ⟨m, hm⟩ : ∃ m : Nat, (α 0 1 - 1 - (k : Nat)).toNat = m + 1 := ⟨(α 0 1 - 1 - (k : Nat)).toNat - 1, by omega⟩
        have em : (α 0 1 - 1 - ((k + 1 : Nat) : Int)).toNat = m := by omega
        have ek : (k : Int) = α 0 1 - 1 - ((m + 1 : Nat) : Int) := by omega
        have ek1 : (k : Int) + 1 = ((k + 1 : Nat) : Int) := by omega
        have hJr : ∀ i : Nat, i < (nCh α a ((k + 1 : Nat) : Int)).toNat → 0 ≤ jnt α a k (ixs α a kd k) i ∧ jnt α a k (ixs α a kd k) i ≤ 16 := fun i hi => by
          have v := uCh_r (a := a) (k := ((k + 1 : Nat) : Int)) (i := (i : Int)) hw (by omega) (by omega)
          unfold jnt
          rw [ek1]
          exact joiS_r hw.1 uk.1.1 uk.1.2 v.1.1 v.1.2
        rw [em] at hD hvx
        obtain ⟨g1, g2, g3⟩ := fv_p hD hJr (nCh α a ((k + 1 : Nat) : Int)).toNat (by omega) (by omega)
        have ok := (fd_ok hD hJr (nCh α a ((k + 1 : Nat) : Int)).toNat (by omega)).2 (by omega)
        have ew : wnt α a kd (k + 1) = fd (dp α a kd m) (jnt α a k (ixs α a kd k)) (nCh α a ((k + 1 : Nat) : Int)).toNat 0 := by
          have s0 := (dp_s (α := α) (a := a) (kd := kd) (i := ixs α a kd k) ek).1
          rw [wnt, hm, s0, ek1]
          omega
        have ei : ixs α a kd (k + 1) = fv (dp α a kd m) (jnt α a k (ixs α a kd k)) (nCh α a ((k + 1 : Nat) : Int)).toNat := by
          rw [ixs, hm, via, ← ek, ek1]
        have pk : σ 141 (((k + 1 : Nat) : Int) - 1) = uCh α a k (ixs α a kd k) := by
          rw [show ((k + 1 : Nat) : Int) - 1 = k by omega, hp k (by omega) (by omega)]
          unfold pth
          rw [show ((k : Int)).toNat = k by omega]
        rw [ei] at ir ⊢
        rw [ew]
        exact m_27 (a := a) (kd := kd) (p := uCh α a k (ixs α a kd k)) (J := jnt α a k (ixs α a kd k)) (m := m) kx' h hw hf (by omega) (by omega) hcx hvx (Or.inr ⟨by omega, pk, uk.1, fun z => by unfold jnt; rw [ek1]⟩) (fun i i1 i2 => by
          have := hJr i.toNat (by omega)
          rw [show ((i.toNat : Nat) : Int) = i by omega] at this
          exact this) (by have := ok.1; omega) ir g1.symm g2 _ _ _ (by omega) (by omega) (by omega)
    have hs141 : ∀ o, ¬ o = 141 → upS σ 141 x (pth α a kd x) o = σ o := fun o ho => upS_of ho
    obtain ⟨τ, g1, g2, g3⟩ := ih (x + 1) (upS σ 141 x (pth α a kd x)) n (JM_scr (fun i _ => upS_o (by omega)) (fun o o1 o2 => upS_of (by omega)) h) (by rw [upS_o (by omega)]; exact h39) (fun q q1 q2 => by
      have z := hc q q1 q2
      unfold mCh at z ⊢
      rw [hs141 135 (by omega), hs141 136 (by omega)]
      exact z) (fun q q1 q2 i i1 i2 => by
      have z := hv q q1 q2 i i1 i2
      unfold mV at z ⊢
      rw [hs141 137 (by omega), hs141 138 (by omega), hs141 139 (by omega), hs141 140 (by omega)]
      exact z) (by omega) (fun k k1 k2 => by
      by_cases c : k = x
      · subst c; exact upS_h ⟨rfl, rfl⟩
      · rw [upS_i c]; exact hp k k1 (by omega)) (by omega)
    rw [show ((x + 1 : Nat) : Int) = (x : Int) + 1 by omega] at g1
    refine ⟨τ, ?_, g2, fun o ho => by rw [g3 o ho, hs141 o ho]⟩
    have ew : wnt α a kd (x + 1) = dp α a kd (α 0 1 - 1 - (x : Nat)).toNat 0 (ixs α a kd x) - fitS α kd (uCh α a x (ixs α a kd x)) x := rfl
    rw [← g1, ew, ep, lp_X10_layChain_7]
    have e1 := hcx.1
    rw [iww_t (by omega), rdA_t (by omega), e1, bnd_d, inner]
    unfold f_X10_fitNow
    simp (disch := omega) only [↓rdA_t, ↓wrA_t, ↓ixA_t, ↓wrF_d, ↓bd2_s, ↓bd1_s, ↓bnd_d, ↓iww_t, ↓iww_f, ↓iwl_t, ↓iwl_f, ↓ilw_t, ↓ilw_f, ↓eww_t, ↓eww_f, ↓ewl_t, ↓ewl_f, ↓ez_t, ↓ez_f, ↓il_t, ↓il_f, il_t, il_f, ez_t, ez_f, if_true, if_false, upS_h, upS_o, upS_i, Int.reduceAdd, Int.reduceSub, Int.reduceMul, Int.reduceNeg, wI_id, e4, e5, h39, ef]
end
section
/-! ===== chain ===== -/
theorem m_lay {σ α : St} (h : IM σ α) (hw : WF α) (b1 : 0 < α 0 1 ∧ allF α (-1)) (b3 : mFd σ α (-1) (α 0 2)) (b4 : σ 118 39 = α 0 2) : ∃ τ, f_X10_layChain σ = some (0, τ) ∧ (∀ j, 0 ≤ j → j < α 0 1 → τ 141 j = pth α (-1) (α 0 2) j) ∧ IM τ α ∧ ∀ o, ¬ o = 141 → τ o = σ o := by
  have w2 := hw.2.1.2.1
  obtain ⟨τ, g1, g2, g3⟩ := m_lay_g (α := α) (a := -1) (kd := α 0 2) (fun σ22 => some (0, σ22)) hw b1.2 hw.2.2.1.1 (α 0 1).toNat 0 σ 1000 (JM_of h) b4 b3.2.1 b3.2.2 (by omega) (fun j j1 j2 => by omega) (by omega)
  refine ⟨τ, ?_, g2, IM_scr (fun i hi => by rw [g3 118 (by omega)]) (fun o o1 o2 => g3 o (by omega)) h, g3⟩
  unfold f_X10_layChain
  have e0 : (((0 : Nat)) : Int) = 0 := rfl
  have e1 : wnt α (-1) (α 0 2) 0 = tp α (-1) (α 0 2) 0 := rfl
  rw [e0, e1, ← b3.1.1] at g1
  exact g1
def rCn (α : St) (k : Int) : Int := if isPl α k then (if has α (-1) = 1 then pth α (-1) (α 0 2) k else -3) else -2
def aCn (α : St) (k : Int) : St := if isPl α k then aNo α (-1) else aR α 3
theorem wf_chain {α : St} {k : Int} (hw : WF α) : WF (aCn α k) := by
  unfold aCn
  by_cases c : isPl α k
  · rw [if_pos c]; exact wf_no hw
  · rw [if_neg c]; exact WF_aR 3 (by omega) hw
theorem xc_chain {σ α : St} {k : Int} (h : IC σ α) (hw : WF α) (hk : inR k) : oC (f_X9_chain σ k) σ α (rCn α k) (aCn α k) := by
  have w2 := hw.2.1.2.1
  unfold f_X9_chain rCn aCn aNo
  rw [c_isPl h.2.1 hw.2.1 hk]
  by_cases c : isPl α k
  · rw [if_pos c, if_pos c, if_pos c]
    rcases c_find h hw (a := -1) (by omega) with ⟨b1, τ, b2, b3, b4, b5⟩ | ⟨b1, τ, b2, b3, b4⟩
    · rw [has_1 b1, if_pos rfl, if_pos rfl]
      have e := b4.2 k c.1.1 (c.2 b1.1)
      have c1 := c.1
      simp (disch := omega) only [↓rdA_t, ↓wrA_t, ↓ixA_t, ↓wrF_d, ↓bd2_s, ↓bd1_s, ↓bnd_d, ↓iww_t, ↓iww_f, ↓iwl_t, ↓iwl_f, ↓ilw_t, ↓ilw_f, ↓eww_t, ↓eww_f, ↓ewl_t, ↓ewl_f, ↓ez_t, ↓ez_f, ↓il_t, ↓il_f, il_t, il_f, ez_t, ez_f, if_true, if_false, upS_h, upS_o, upS_i, Int.reduceAdd, Int.reduceSub, Int.reduceMul, Int.reduceNeg, wI_id, b2, e]
      exact ⟨τ, rfl, b3, b5⟩
    · rw [has_0 b1, if_neg (show ¬ (0 : Int) = 1 by omega), if_neg (show ¬ (0 : Int) = 1 by omega)]
      simp (disch := omega) only [↓rdA_t, ↓wrA_t, ↓ixA_t, ↓wrF_d, ↓bd2_s, ↓bd1_s, ↓bnd_d, ↓iww_t, ↓iww_f, ↓iwl_t, ↓iwl_f, ↓ilw_t, ↓ilw_f, ↓eww_t, ↓eww_f, ↓ewl_t, ↓ewl_f, ↓ez_t, ↓ez_f, ↓il_t, ↓il_f, il_t, il_f, ez_t, ez_f, if_true, if_false, upS_h, upS_o, upS_i, Int.reduceAdd, Int.reduceSub, Int.reduceMul, Int.reduceNeg, wI_id, b2]
      exact oC_tr b4 (oC_id (oC_no b3))
  · rw [if_neg c, if_neg c, if_neg c]
    simp (disch := omega) only [↓rdA_t, ↓wrA_t, ↓ixA_t, ↓wrF_d, ↓bd2_s, ↓bd1_s, ↓bnd_d, ↓iww_t, ↓iww_f, ↓iwl_t, ↓iwl_f, ↓ilw_t, ↓ilw_f, ↓eww_t, ↓eww_f, ↓ewl_t, ↓ewl_f, ↓ez_t, ↓ez_f, ↓il_t, ↓il_f, il_t, il_f, ez_t, ez_f, if_true, if_false, upS_h, upS_o, upS_i, Int.reduceAdd, Int.reduceSub, Int.reduceMul, Int.reduceNeg, wI_id]
    exact oC_id (oC_bad h)
theorem xm_chain {σ α : St} {k : Int} (h : IM σ α) (hw : WF α) (hk : inR k) : oM (f_X10_chain σ k) σ α (rCn α k) (aCn α k) := by
  have hs := h.2.1.1
  have w1 := hw.2.1.1
  have w2 := hw.2.1.2.1
  unfold inR at hk
  have main : isPl α k → oM (jn_X10_chain_34 σ k) σ α (rCn α k) (aCn α k) := by
    intro c
    have c1 := c.1
    unfold jn_X10_chain_34 rCn aCn aNo
    rw [if_pos c, if_pos c]
    rcases m_now h hw with ⟨b1, τ, b2, b3, b4, b5, b6⟩ | ⟨b1, τ, b2, b3, b4⟩
    · rw [has_1 b1, if_pos rfl, if_pos rfl]
      obtain ⟨ρ, g1, g2, g3, g4⟩ := m_lay b5 hw b1 b3 b4
      have e := g2 k c.1.1 (c.2 b1.1)
      simp (disch := omega) only [↓rdA_t, ↓wrA_t, ↓ixA_t, ↓wrF_d, ↓bd2_s, ↓bd1_s, ↓bnd_d, ↓iww_t, ↓iww_f, ↓iwl_t, ↓iwl_f, ↓ilw_t, ↓ilw_f, ↓eww_t, ↓eww_f, ↓ewl_t, ↓ewl_f, ↓ez_t, ↓ez_f, ↓il_t, ↓il_f, il_t, il_f, ez_t, ez_f, if_true, if_false, upS_h, upS_o, upS_i, Int.reduceAdd, Int.reduceSub, Int.reduceMul, Int.reduceNeg, wI_id, b2, g1, e]
      exact ⟨ρ, rfl, g3, fun o ho => by rw [g4 o (by omega), b6 o ho]⟩
    · rw [has_0 b1, if_neg (show ¬ (0 : Int) = 1 by omega), if_neg (show ¬ (0 : Int) = 1 by omega)]
      simp (disch := omega) only [↓rdA_t, ↓wrA_t, ↓ixA_t, ↓wrF_d, ↓bd2_s, ↓bd1_s, ↓bnd_d, ↓iww_t, ↓iww_f, ↓iwl_t, ↓iwl_f, ↓ilw_t, ↓ilw_f, ↓eww_t, ↓eww_f, ↓ewl_t, ↓ewl_f, ↓ez_t, ↓ez_f, ↓il_t, ↓il_f, il_t, il_f, ez_t, ez_f, if_true, if_false, upS_h, upS_o, upS_i, Int.reduceAdd, Int.reduceSub, Int.reduceMul, Int.reduceNeg, wI_id, b2]
      exact oM_tr b4 (oM_id (oM_no b3))
  unfold f_X10_chain
  by_cases c : isPl α k
  · have c1 := c.1
    by_cases c0 : 0 < α 0 1
    · have := c.2 c0
      simp (disch := omega) only [↓rdA_t, ↓wrA_t, ↓ixA_t, ↓wrF_d, ↓bd2_s, ↓bd1_s, ↓bnd_d, ↓iww_t, ↓iww_f, ↓iwl_t, ↓iwl_f, ↓ilw_t, ↓ilw_f, ↓eww_t, ↓eww_f, ↓ewl_t, ↓ewl_f, ↓ez_t, ↓ez_f, ↓il_t, ↓il_f, il_t, il_f, ez_t, ez_f, if_true, if_false, upS_h, upS_o, upS_i, Int.reduceAdd, Int.reduceSub, Int.reduceMul, Int.reduceNeg, wI_id, in_t]
      exact main c
    · simp (disch := omega) only [↓rdA_t, ↓wrA_t, ↓ixA_t, ↓wrF_d, ↓bd2_s, ↓bd1_s, ↓bnd_d, ↓iww_t, ↓iww_f, ↓iwl_t, ↓iwl_f, ↓ilw_t, ↓ilw_f, ↓eww_t, ↓eww_f, ↓ewl_t, ↓ewl_f, ↓ez_t, ↓ez_f, ↓il_t, ↓il_f, il_t, il_f, ez_t, ez_f, if_true, if_false, upS_h, upS_o, upS_i, Int.reduceAdd, Int.reduceSub, Int.reduceMul, Int.reduceNeg, wI_id, in_t]
      exact main c
  · unfold rCn aCn
    rw [if_neg c, if_neg c]
    by_cases c0 : 0 ≤ k ∧ k ≤ 7
    · have c2 : 0 < α 0 1 ∧ ¬ k < α 0 1 := by
        constructor
        · by_cases z : 0 < α 0 1
          · exact z
          · exact absurd ⟨c0, fun y => absurd y z⟩ c
        · exact fun z => c ⟨c0, fun _ => z⟩
      simp (disch := omega) only [↓rdA_t, ↓wrA_t, ↓ixA_t, ↓wrF_d, ↓bd2_s, ↓bd1_s, ↓bnd_d, ↓iww_t, ↓iww_f, ↓iwl_t, ↓iwl_f, ↓ilw_t, ↓ilw_f, ↓eww_t, ↓eww_f, ↓ewl_t, ↓ewl_f, ↓ez_t, ↓ez_f, ↓il_t, ↓il_f, il_t, il_f, ez_t, ez_f, if_true, if_false, upS_h, upS_o, upS_i, Int.reduceAdd, Int.reduceSub, Int.reduceMul, Int.reduceNeg, wI_id, in_t]
      exact oM_id (oM_bad (-2) h)
    · simp (disch := omega) only [↓rdA_t, ↓wrA_t, ↓ixA_t, ↓wrF_d, ↓bd2_s, ↓bd1_s, ↓bnd_d, ↓iww_t, ↓iww_f, ↓iwl_t, ↓iwl_f, ↓ilw_t, ↓ilw_f, ↓eww_t, ↓eww_f, ↓ewl_t, ↓ewl_f, ↓ez_t, ↓ez_f, ↓il_t, ↓il_f, il_t, il_f, ez_t, ez_f, if_true, if_false, upS_h, upS_o, upS_i, Int.reduceAdd, Int.reduceSub, Int.reduceMul, Int.reduceNeg, wI_id, in_f]
      exact oM_id (oM_bad (-2) h)
end
section
/-! ===== about ===== -/
theorem pth_r {α : St} {a kd k : Int} (hw : WF α) (hf : allF α a) (h0 : 0 ≤ k) (h1 : k < α 0 1) : 0 ≤ pth α a kd k ∧ pth α a kd k < α 0 0 := by
  have ir := ixs_r (kd := kd) hw hf k.toNat (by omega)
  rw [show ((k.toNat : Nat) : Int) = k by omega] at ir
  unfold pth
  exact (uCh_r (a := a) (k := k) hw ir.1 ir.2).1
def abF (α : St) (p : Int → Int) : Nat → Int
  | 0 => 0
  | k + 1 => abF α p k + (if k = 0 then 0 else if nxS α (p ((k : Int) - 1)) = p k then 1 else 0)
def abQ (α : St) (kd : Int) (p : Int → Int) : Nat → Int
  | 0 => 0
  | k + 1 => abQ α kd p k + fitS α kd (p k) k
def abG (α : St) (p : Int → Int) (k : Nat) : Int := if k = 0 then 0 else joiS α (p ((k : Int) - 1)) (p k)
def abJ (α : St) (p : Int → Int) : Nat → Int
  | 0 => 0
  | k + 1 => abJ α p k + abG α p k
def abM (α : St) (p : Int → Int) : Nat → Int
  | 0 => 0
  | k + 1 => if abM α p k < abG α p k then abG α p k else abM α p k
theorem abG_r {α : St} {p : Int → Int} (hw : WF α) (hp : ∀ k, 0 ≤ k → k < α 0 1 → 0 ≤ p k ∧ p k < α 0 0) {k : Nat} (hk : (k : Int) < α 0 1) : 0 ≤ abG α p k ∧ abG α p k ≤ 16 := by
  unfold abG
  by_cases c : k = 0
  · rw [if_pos c]; omega
  · rw [if_neg c]
    have q := hp k (by omega) hk
    have q' := hp ((k : Int) - 1) (by omega) (by omega)
    exact joiS_r hw.1 q'.1 q'.2 q.1 q.2
theorem abM_r {α : St} {p : Int → Int} (hw : WF α) (hp : ∀ k, 0 ≤ k → k < α 0 1 → 0 ≤ p k ∧ p k < α 0 0) : ∀ k : Nat, (k : Int) ≤ α 0 1 → 0 ≤ abM α p k ∧ abM α p k ≤ 16 := by
  intro k
  induction k with
  | zero => intro _; exact ⟨by show (0 : Int) ≤ 0; omega, by show (0 : Int) ≤ 16; omega⟩
  | succ k ih =>
    intro hk
    have g := abG_r hw hp (k := k) (by omega)
    have i := ih (by omega)
    rw [abM]
    by_cases c : abM α p k < abG α p k
    · rw [if_pos c]; exact g
    · rw [if_neg c]; exact i
theorem c_folls {σ α : St} {p : Int → Int} (kx : Int → Option Int) (h : IC σ α) (hw : WF α) (hp : ∀ k, 0 ≤ k → k < α 0 1 → 0 ≤ p k ∧ p k < α 0 0) (hq : ∀ k, 0 ≤ k → k < α 0 1 → σ 69 k = p k) : ∀ (r x n : Nat), 0 < x → (x : Int) + r = α 0 1 → r < n → lp_X0_pathFollowers_4 σ kx n (abF α p x) x = kx (abF α p (x + r)) := by
  intro r
  have w2 := hw.2.1.2.1
  have w3 := hw.1.2.1
  have hs := h.2.1.1
  induction r with
  | zero =>
    intro x n h0 h1 hn
    obtain ⟨n, rfl⟩ : ∃ k, n = k + 1 := ⟨n - 1, by omega⟩
    rw [lp_X0_pathFollowers_4, iww_f (by omega)]; rfl
  | succ r ih =>
    intro x n h0 h1 hn
    obtain ⟨n, rfl⟩ : ∃ k, n = k + 1 := ⟨n - 1, by omega⟩
    have p1 := hp x (by omega) (by omega)
    have p0 := hp ((x : Int) - 1) (by omega) (by omega)
    have q1 := hq x (by omega) (by omega)
    have q0 := hq ((x : Int) - 1) (by omega) (by omega)
    have e := c_foll h.1 hw.1 p0.1 p0.2
    have er := nxt_r hw.1 p0.1 (nxS_is hw.1 p0.1)
    have g := ih (x + 1) n (by omega) (by omega) (by omega)
    rw [show x + 1 + r = x + (r + 1) by omega, show ((x + 1 : Nat) : Int) = (x : Int) + 1 by omega, abF, if_neg (show ¬ x = 0 by omega)] at g
    rw [lp_X0_pathFollowers_4]
    by_cases c : nxS α (p ((x : Int) - 1)) = p x
    · rw [if_pos c] at g
      simp (disch := omega) only [↓rdA_t, ↓wrA_t, ↓ixA_t, ↓wrF_d, ↓bd2_s, ↓bd1_s, ↓bnd_d, ↓iww_t, ↓iww_f, ↓iwl_t, ↓iwl_f, ↓ilw_t, ↓ilw_f, ↓eww_t, ↓eww_f, ↓ewl_t, ↓ewl_f, ↓ez_t, ↓ez_f, ↓il_t, ↓il_f, il_t, il_f, ez_t, ez_f, if_true, if_false, upS_h, upS_o, upS_i, Int.reduceAdd, Int.reduceSub, Int.reduceMul, Int.reduceNeg, wI_id, q0, q1, e]
      exact g
    · rw [if_neg c, Int.add_zero] at g
      simp (disch := omega) only [↓rdA_t, ↓wrA_t, ↓ixA_t, ↓wrF_d, ↓bd2_s, ↓bd1_s, ↓bnd_d, ↓iww_t, ↓iww_f, ↓iwl_t, ↓iwl_f, ↓ilw_t, ↓ilw_f, ↓eww_t, ↓eww_f, ↓ewl_t, ↓ewl_f, ↓ez_t, ↓ez_f, ↓il_t, ↓il_f, il_t, il_f, ez_t, ez_f, if_true, if_false, upS_h, upS_o, upS_i, Int.reduceAdd, Int.reduceSub, Int.reduceMul, Int.reduceNeg, wI_id, q0, q1, e]
      exact g
theorem c_fits {σ α : St} {p : Int → Int} {kd : Int} (kx : Int → Option Int) (h : IC σ α) (hw : WF α) (hkd : 0 ≤ kd ∧ kd ≤ 4) (hp : ∀ k, 0 ≤ k → k < α 0 1 → 0 ≤ p k ∧ p k < α 0 0) (hq : ∀ k, 0 ≤ k → k < α 0 1 → σ 69 k = p k) : ∀ (r x n : Nat), (x : Int) + r = α 0 1 → r < n → lp_X0_pathFits_4 σ kd kx n (abQ α kd p x) x = kx (abQ α kd p (x + r)) := by
  intro r
  have w2 := hw.2.1.2.1
  have w3 := hw.1.2.1
  have hs := h.2.1.1
  induction r with
  | zero =>
    intro x n h1 hn
    obtain ⟨n, rfl⟩ : ∃ k, n = k + 1 := ⟨n - 1, by omega⟩
    rw [lp_X0_pathFits_4, iww_f (by omega)]; rfl
  | succ r ih =>
    intro x n h1 hn
    obtain ⟨n, rfl⟩ : ∃ k, n = k + 1 := ⟨n - 1, by omega⟩
    have p1 := hp x (by omega) (by omega)
    have q1 := hq x (by omega) (by omega)
    have e := c_fit h hw hkd p1.1 p1.2 (show (0 : Int) ≤ x by omega) (by omega)
    have g := ih (x + 1) n (by omega) (by omega)
    rw [show x + 1 + r = x + (r + 1) by omega, show ((x + 1 : Nat) : Int) = (x : Int) + 1 by omega, abQ] at g
    rw [lp_X0_pathFits_4]
    simp (disch := omega) only [↓rdA_t, ↓wrA_t, ↓ixA_t, ↓wrF_d, ↓bd2_s, ↓bd1_s, ↓bnd_d, ↓iww_t, ↓iww_f, ↓iwl_t, ↓iwl_f, ↓ilw_t, ↓ilw_f, ↓eww_t, ↓eww_f, ↓ewl_t, ↓ewl_f, ↓ez_t, ↓ez_f, ↓il_t, ↓il_f, il_t, il_f, ez_t, ez_f, if_true, if_false, upS_h, upS_o, upS_i, Int.reduceAdd, Int.reduceSub, Int.reduceMul, Int.reduceNeg, wI_id, q1, e]
    exact g
theorem c_jois {σ α : St} {p : Int → Int} (kx : Int → Option Int) (h : IC σ α) (hw : WF α) (hp : ∀ k, 0 ≤ k → k < α 0 1 → 0 ≤ p k ∧ p k < α 0 0) (hq : ∀ k, 0 ≤ k → k < α 0 1 → σ 69 k = p k) : ∀ (r x n : Nat), 0 < x → (x : Int) + r = α 0 1 → r < n → lp_X0_pathJoints_4 σ kx n (abJ α p x) x = kx (abJ α p (x + r)) := by
  intro r
  have w2 := hw.2.1.2.1
  have w3 := hw.1.2.1
  have hs := h.2.1.1
  induction r with
  | zero =>
    intro x n h0 h1 hn
    obtain ⟨n, rfl⟩ : ∃ k, n = k + 1 := ⟨n - 1, by omega⟩
    rw [lp_X0_pathJoints_4, iww_f (by omega)]; rfl
  | succ r ih =>
    intro x n h0 h1 hn
    obtain ⟨n, rfl⟩ : ∃ k, n = k + 1 := ⟨n - 1, by omega⟩
    have p1 := hp x (by omega) (by omega)
    have p0 := hp ((x : Int) - 1) (by omega) (by omega)
    have q1 := hq x (by omega) (by omega)
    have q0 := hq ((x : Int) - 1) (by omega) (by omega)
    have e := c_joint h.1 hw.1 p0.1 p0.2 p1.1 p1.2
    have g := ih (x + 1) n (by omega) (by omega) (by omega)
    rw [show x + 1 + r = x + (r + 1) by omega, show ((x + 1 : Nat) : Int) = (x : Int) + 1 by omega, abJ, abG, if_neg (show ¬ x = 0 by omega)] at g
    rw [lp_X0_pathJoints_4]
    simp (disch := omega) only [↓rdA_t, ↓wrA_t, ↓ixA_t, ↓wrF_d, ↓bd2_s, ↓bd1_s, ↓bnd_d, ↓iww_t, ↓iww_f, ↓iwl_t, ↓iwl_f, ↓ilw_t, ↓ilw_f, ↓eww_t, ↓eww_f, ↓ewl_t, ↓ewl_f, ↓ez_t, ↓ez_f, ↓il_t, ↓il_f, il_t, il_f, ez_t, ez_f, if_true, if_false, upS_h, upS_o, upS_i, Int.reduceAdd, Int.reduceSub, Int.reduceMul, Int.reduceNeg, wI_id, q0, q1, e]
    exact g
theorem c_dear {σ α : St} {p : Int → Int} (kx : Int → Option Int) (h : IC σ α) (hw : WF α) (hp : ∀ k, 0 ≤ k → k < α 0 1 → 0 ≤ p k ∧ p k < α 0 0) (hq : ∀ k, 0 ≤ k → k < α 0 1 → σ 69 k = p k) : ∀ (r x n : Nat), 0 < x → (x : Int) + r = α 0 1 → r < n → lp_X0_dearestPathJoint_4 σ kx n (abM α p x) x = kx (abM α p (x + r)) := by
  intro r
  have w2 := hw.2.1.2.1
  have w3 := hw.1.2.1
  have hs := h.2.1.1
  induction r with
  | zero =>
    intro x n h0 h1 hn
    obtain ⟨n, rfl⟩ : ∃ k, n = k + 1 := ⟨n - 1, by omega⟩
    rw [lp_X0_dearestPathJoint_4, iww_f (by omega)]; rfl
  | succ r ih =>
    intro x n h0 h1 hn
    obtain ⟨n, rfl⟩ : ∃ k, n = k + 1 := ⟨n - 1, by omega⟩
    have p1 := hp x (by omega) (by omega)
    have p0 := hp ((x : Int) - 1) (by omega) (by omega)
    have q1 := hq x (by omega) (by omega)
    have q0 := hq ((x : Int) - 1) (by omega) (by omega)
    have e := c_joint h.1 hw.1 p0.1 p0.2 p1.1 p1.2
    have er := joiS_r hw.1 p0.1 p0.2 p1.1 p1.2
    have mr := abM_r hw hp x (by omega)
    have g := ih (x + 1) n (by omega) (by omega) (by omega)
    rw [show x + 1 + r = x + (r + 1) by omega, show ((x + 1 : Nat) : Int) = (x : Int) + 1 by omega, abM, abG, if_neg (show ¬ x = 0 by omega)] at g
    rw [lp_X0_dearestPathJoint_4]
    rw [iww_t (by omega), rdA_t (by omega), q0, rdA_t (by omega), q1, e, bd1_s, bnd_d, max_e (by omega)]
    exact g
theorem m_abouts {σ α : St} {p : Int → Int} {w : Int} (kx : St → Int → Int → Int → Int → Option (Int × St)) (h : IM σ α) (hw : WF α) (hp : ∀ k, 0 ≤ k → k < α 0 1 → 0 ≤ p k ∧ p k < α 0 0) (hq : ∀ k, 0 ≤ k → k < α 0 1 → σ 141 k = p k) : ∀ (r x n : Nat), (x : Int) + r = α 0 1 → r < n → lp_X10_about_48 w kx n σ (abF α p x) (abQ α (α 0 2) p x) (abJ α p x) (abM α p x) x = kx σ (abF α p (x + r)) (abQ α (α 0 2) p (x + r)) (abJ α p (x + r)) (abM α p (x + r)) := by
  intro r
  have w2 := hw.2.1.2.1
  have w3 := hw.1.2.1
  have hs := h.2.1.1
  have hk := h.2.2.1.1
  induction r with
  | zero =>
    intro x n h1 hn
    obtain ⟨n, rfl⟩ : ∃ k, n = k + 1 := ⟨n - 1, by omega⟩
    rw [lp_X10_about_48, iww_f (by omega)]; rfl
  | succ r ih =>
    intro x n h1 hn
    obtain ⟨n, rfl⟩ : ∃ k, n = k + 1 := ⟨n - 1, by omega⟩
    have p1 := hp x (by omega) (by omega)
    have q1 := hq x (by omega) (by omega)
    have ef := m_fit (JM_of h) hw hw.2.2.1.1 p1.1 p1.2 (show (0 : Int) ≤ x by omega) (by omega)
    have mr := abM_r hw hp x (by omega)
    have g := ih (x + 1) n (by omega) (by omega)
    rw [show x + 1 + r = x + (r + 1) by omega, show ((x + 1 : Nat) : Int) = (x : Int) + 1 by omega, abF, abQ, abJ, abM, abG] at g
    rw [lp_X10_about_48]
    unfold jn_X10_about_106 jn_X10_about_142
    by_cases c : x = 0
    · rw [if_pos c, if_pos c] at g
      rw [iww_t (by omega), rdA_t (by omega), q1, hk, ef, bd1_s, bnd_d, ewl_t (by omega), ilw_f (by omega), bnd_d, bnd_d, bnd_d, wI_id (x := abM α p x) (by omega) (by omega), wI_id (x := 0) (by omega) (by omega)]
      exact g
    · rw [if_neg c, if_neg c] at g
      have p0 := hp ((x : Int) - 1) (by omega) (by omega)
      have q0 := hq ((x : Int) - 1) (by omega) (by omega)
      have e := m_joint h.1 hw.1 p0.1 p0.2 p1.1 p1.2
      have er := joiS_r hw.1 p0.1 p0.2 p1.1 p1.2
      have e2 := m_next h.1 hw.1 p0.1 p0.2
      have er2 := nxt_r hw.1 p0.1 (nxS_is hw.1 p0.1)
      rw [iww_t (by omega), rdA_t (by omega), q1, hk, ef, bd1_s, bnd_d, ewl_f (by omega), rdA_t (by omega), q0, rdA_t (by omega), q1, e, bd1_s, ilw_t (by omega), rdA_t (by omega), q0, e2, bd1_s, rdA_t (by omega), q1, bnd_d, bnd_d, bnd_d, wI_id (x := abM α p x) (by omega) (by omega), wI_id (x := joiS α (p ((x : Int) - 1)) (p x)) (by omega) (by omega), wI_id (x := nxS α (p ((x : Int) - 1))) (by omega) (by omega), wI_id (x := p x) (by omega) (by omega)]
      exact g
def rAb (α : St) (w : Int) : Int := if 0 ≤ w ∧ w ≤ 3 then (if has α (-1) = 1 then (if w = 0 then abF α (pth α (-1) (α 0 2)) (α 0 1).toNat else if w = 1 then abQ α (α 0 2) (pth α (-1) (α 0 2)) (α 0 1).toNat else if w = 2 then abJ α (pth α (-1) (α 0 2)) (α 0 1).toNat else abM α (pth α (-1) (α 0 2)) (α 0 1).toNat) else -3) else -2
def aAb (α : St) (w : Int) : St := if 0 ≤ w ∧ w ≤ 3 then aNo α (-1) else aR α 3
theorem wf_about {α : St} {w : Int} (hw : WF α) : WF (aAb α w) := by
  unfold aAb
  by_cases c : 0 ≤ w ∧ w ≤ 3
  · rw [if_pos c]; exact wf_no hw
  · rw [if_neg c]; exact WF_aR 3 (by omega) hw
theorem xc_about {σ α : St} {w : Int} (h : IC σ α) (hw : WF α) (ha : inR w) : oC (f_X9_about σ w) σ α (rAb α w) (aAb α w) := by
  unfold inR at ha
  have w2 := hw.2.1.2.1
  unfold f_X9_about rAb aAb aNo
  by_cases c : 0 ≤ w ∧ w ≤ 3
  · rw [if_pos c, if_pos c]
    rcases c_find h hw (a := -1) (by omega) with ⟨b1, τ, b2, b3, b4, b5⟩ | ⟨b1, τ, b2, b3, b4⟩
    · rw [has_1 b1, if_pos rfl, if_pos rfl]
      have hp : ∀ k, 0 ≤ k → k < α 0 1 → 0 ≤ pth α (-1) (α 0 2) k ∧ pth α (-1) (α 0 2) k < α 0 0 := fun k k1 k2 => pth_r hw b1.2 k1 k2
      have hq := b4.2
      have hk : τ 0 8 = α 0 2 := b3.2.2.1.1
      have hn := b1.1
      have en : 1 + ((α 0 1).toNat - 1) = (α 0 1).toNat := by omega
      have en0 : 0 + (α 0 1).toNat = (α 0 1).toNat := by omega
      have e1 : (((1 : Nat)) : Int) = 1 := rfl
      have e0 : (((0 : Nat)) : Int) = 0 := rfl
      have g0 := c_folls (fun y6 => some y6) b3 hw hp hq ((α 0 1).toNat - 1) 1 1000 (by omega) (by omega) (by omega)
      have g1 := c_fits (fun y6 => some y6) b3 hw hw.2.2.1.1 hp hq (α 0 1).toNat 0 1000 (by omega) (by omega)
      have g2 := c_jois (fun y6 => some y6) b3 hw hp hq ((α 0 1).toNat - 1) 1 1000 (by omega) (by omega) (by omega)
      have g3 := c_dear (fun y6 => some y6) b3 hw hp hq ((α 0 1).toNat - 1) 1 1000 (by omega) (by omega) (by omega)
      rw [en, e1] at g0 g2 g3
      rw [en0, e0] at g1
      have z0 : abF α (pth α (-1) (α 0 2)) 1 = 0 := rfl
      have z1 : abQ α (α 0 2) (pth α (-1) (α 0 2)) 0 = 0 := rfl
      have z2 : abJ α (pth α (-1) (α 0 2)) 1 = 0 := rfl
      have z3 : abM α (pth α (-1) (α 0 2)) 1 = 0 := rfl
      rw [z0] at g0
      rw [z1] at g1
      rw [z2] at g2
      rw [z3] at g3
      unfold f_X0_pathFollowers f_X0_pathFits f_X0_pathJoints f_X0_dearestPathJoint
      have : w = 0 ∨ w = 1 ∨ w = 2 ∨ w = 3 := by omega
      rcases this with rfl | rfl | rfl | rfl
      · simp (disch := omega) only [↓rdA_t, ↓wrA_t, ↓ixA_t, ↓wrF_d, ↓bd2_s, ↓bd1_s, ↓bnd_d, ↓iww_t, ↓iww_f, ↓iwl_t, ↓iwl_f, ↓ilw_t, ↓ilw_f, ↓eww_t, ↓eww_f, ↓ewl_t, ↓ewl_f, ↓ez_t, ↓ez_f, ↓il_t, ↓il_f, il_t, il_f, ez_t, ez_f, if_true, if_false, upS_h, upS_o, upS_i, Int.reduceAdd, Int.reduceSub, Int.reduceMul, Int.reduceNeg, wI_id, within_t, b2, g0]
        exact ⟨τ, rfl, b3, b5⟩
      · simp (disch := omega) only [↓rdA_t, ↓wrA_t, ↓ixA_t, ↓wrF_d, ↓bd2_s, ↓bd1_s, ↓bnd_d, ↓iww_t, ↓iww_f, ↓iwl_t, ↓iwl_f, ↓ilw_t, ↓ilw_f, ↓eww_t, ↓eww_f, ↓ewl_t, ↓ewl_f, ↓ez_t, ↓ez_f, ↓il_t, ↓il_f, il_t, il_f, ez_t, ez_f, if_true, if_false, upS_h, upS_o, upS_i, Int.reduceAdd, Int.reduceSub, Int.reduceMul, Int.reduceNeg, wI_id, within_t, b2, hk, g1]
        exact ⟨τ, rfl, b3, b5⟩
      · simp (disch := omega) only [↓rdA_t, ↓wrA_t, ↓ixA_t, ↓wrF_d, ↓bd2_s, ↓bd1_s, ↓bnd_d, ↓iww_t, ↓iww_f, ↓iwl_t, ↓iwl_f, ↓ilw_t, ↓ilw_f, ↓eww_t, ↓eww_f, ↓ewl_t, ↓ewl_f, ↓ez_t, ↓ez_f, ↓il_t, ↓il_f, il_t, il_f, ez_t, ez_f, if_true, if_false, upS_h, upS_o, upS_i, Int.reduceAdd, Int.reduceSub, Int.reduceMul, Int.reduceNeg, wI_id, within_t, b2, g2]
        exact ⟨τ, rfl, b3, b5⟩
      · simp (disch := omega) only [↓rdA_t, ↓wrA_t, ↓ixA_t, ↓wrF_d, ↓bd2_s, ↓bd1_s, ↓bnd_d, ↓iww_t, ↓iww_f, ↓iwl_t, ↓iwl_f, ↓ilw_t, ↓ilw_f, ↓eww_t, ↓eww_f, ↓ewl_t, ↓ewl_f, ↓ez_t, ↓ez_f, ↓il_t, ↓il_f, il_t, il_f, ez_t, ez_f, if_true, if_false, upS_h, upS_o, upS_i, Int.reduceAdd, Int.reduceSub, Int.reduceMul, Int.reduceNeg, wI_id, within_t, b2, g3]
        exact ⟨τ, rfl, b3, b5⟩
    · rw [has_0 b1, if_neg (show ¬ (0 : Int) = 1 by omega), if_neg (show ¬ (0 : Int) = 1 by omega)]
      simp (disch := omega) only [↓rdA_t, ↓wrA_t, ↓ixA_t, ↓wrF_d, ↓bd2_s, ↓bd1_s, ↓bnd_d, ↓iww_t, ↓iww_f, ↓iwl_t, ↓iwl_f, ↓ilw_t, ↓ilw_f, ↓eww_t, ↓eww_f, ↓ewl_t, ↓ewl_f, ↓ez_t, ↓ez_f, ↓il_t, ↓il_f, il_t, il_f, ez_t, ez_f, if_true, if_false, upS_h, upS_o, upS_i, Int.reduceAdd, Int.reduceSub, Int.reduceMul, Int.reduceNeg, wI_id, within_t, b2]
      exact oC_tr b4 (oC_id (oC_no b3))
  · rw [if_neg c, if_neg c]
    simp (disch := omega) only [↓rdA_t, ↓wrA_t, ↓ixA_t, ↓wrF_d, ↓bd2_s, ↓bd1_s, ↓bnd_d, ↓iww_t, ↓iww_f, ↓iwl_t, ↓iwl_f, ↓ilw_t, ↓ilw_f, ↓eww_t, ↓eww_f, ↓ewl_t, ↓ewl_f, ↓ez_t, ↓ez_f, ↓il_t, ↓il_f, il_t, il_f, ez_t, ez_f, if_true, if_false, upS_h, upS_o, upS_i, Int.reduceAdd, Int.reduceSub, Int.reduceMul, Int.reduceNeg, wI_id, within_f]
    exact oC_id (oC_bad h)
theorem xm_about {σ α : St} {w : Int} (h : IM σ α) (hw : WF α) (ha : inR w) : oM (f_X10_about σ w) σ α (rAb α w) (aAb α w) := by
  unfold inR at ha
  have w2 := hw.2.1.2.1
  unfold f_X10_about rAb aAb aNo
  by_cases c : 0 ≤ w ∧ w ≤ 3
  · rw [if_pos c, if_pos c]
    rcases m_now h hw with ⟨b1, τ, b2, b3, b4, b5, b6⟩ | ⟨b1, τ, b2, b3, b4⟩
    · rw [has_1 b1, if_pos rfl, if_pos rfl]
      obtain ⟨ρ, g1, g2, g3, g4⟩ := m_lay b5 hw b1 b3 b4
      have hp : ∀ k, 0 ≤ k → k < α 0 1 → 0 ≤ pth α (-1) (α 0 2) k ∧ pth α (-1) (α 0 2) k < α 0 0 := fun k k1 k2 => pth_r hw b1.2 k1 k2
      have g := m_abouts (w := w) (fun σ32 y33 y34 y35 y36 => some ((if wI w = 0 then y33 else (if wI w = 1 then y34 else (if wI w = 2 then y35 else y36))), σ32)) g3 hw hp g2 (α 0 1).toNat 0 1000 (by omega) (by omega)
      have e0 : (((0 : Nat)) : Int) = 0 := rfl
      have z0 : abF α (pth α (-1) (α 0 2)) 0 = 0 := rfl
      have z1 : abQ α (α 0 2) (pth α (-1) (α 0 2)) 0 = 0 := rfl
      have z2 : abJ α (pth α (-1) (α 0 2)) 0 = 0 := rfl
      have z3 : abM α (pth α (-1) (α 0 2)) 0 = 0 := rfl
      rw [e0, z0, z1, z2, z3, Nat.zero_add, wI_id (x := w) (by omega) (by omega)] at g
      rw [in_t (by omega), if_neg (by omega), b2, bd2_s, if_neg (by omega), g1, bd2_s, wI_id (x := w) (by omega) (by omega), g]
      exact ⟨ρ, rfl, g3, fun o ho => by rw [g4 o (by omega), b6 o ho]⟩
    · rw [has_0 b1, if_neg (show ¬ (0 : Int) = 1 by omega), if_neg (show ¬ (0 : Int) = 1 by omega)]
      simp (disch := omega) only [↓rdA_t, ↓wrA_t, ↓ixA_t, ↓wrF_d, ↓bd2_s, ↓bd1_s, ↓bnd_d, ↓iww_t, ↓iww_f, ↓iwl_t, ↓iwl_f, ↓ilw_t, ↓ilw_f, ↓eww_t, ↓eww_f, ↓ewl_t, ↓ewl_f, ↓ez_t, ↓ez_f, ↓il_t, ↓il_f, il_t, il_f, ez_t, ez_f, if_true, if_false, upS_h, upS_o, upS_i, Int.reduceAdd, Int.reduceSub, Int.reduceMul, Int.reduceNeg, wI_id, in_t, b2]
      exact oM_tr b4 (oM_id (oM_no b3))
  · rw [if_neg c, if_neg c]
    simp (disch := omega) only [↓rdA_t, ↓wrA_t, ↓ixA_t, ↓wrF_d, ↓bd2_s, ↓bd1_s, ↓bnd_d, ↓iww_t, ↓iww_f, ↓iwl_t, ↓iwl_f, ↓ilw_t, ↓ilw_f, ↓eww_t, ↓eww_f, ↓ewl_t, ↓ewl_f, ↓ez_t, ↓ez_f, ↓il_t, ↓il_f, il_t, il_f, ez_t, ez_f, if_true, if_false, upS_h, upS_o, upS_i, Int.reduceAdd, Int.reduceSub, Int.reduceMul, Int.reduceNeg, wI_id, in_f]
    exact oM_id (oM_bad (-2) h)
end
section
/-! ===== digest ===== -/
def dgS (f : Int → Int) (h : Int) : Nat → Int
  | 0 => h
  | n + 1 => 31 * dgS f h n + i2lI (f n)
theorem dgS_c {f g : Int → Int} {h : Int} : ∀ n : Nat, (∀ i : Int, 0 ≤ i → i < n → f i = g i) → dgS f h n = dgS g h n := by
  intro n
  induction n with
  | zero => intro _; rfl
  | succ n ih =>
    intro e
    rw [dgS, dgS, ih (fun i i1 i2 => e i i1 (by omega)), e n (by omega) (by omega)]
def cH (σ τ α : St) : Prop := IC τ α ∧ ∀ o, 118 ≤ o → τ o = σ o
theorem dc_6 {α : St} {h0 : Int} (kx : St → Int → Option (Int × St)) : ∀ (r x : Nat) (σ : St) (n : Nat), IC σ α → x + r = 7 → r < n → ∃ τ, lp_X9_digest_6 kx n σ (dgS (rTld α) h0 x) x = kx τ (dgS (rTld α) h0 (x + r)) ∧ cH σ τ α := by
  intro r
  induction r with
  | zero =>
    intro x σ n h h1 hn
    obtain ⟨n, rfl⟩ : ∃ k, n = k + 1 := ⟨n - 1, by omega⟩
    exact ⟨σ, by rw [lp_X9_digest_6, ilw_t (by omega)]; rfl, h, fun _ _ => rfl⟩
  | succ r ih =>
    intro x σ n h h1 hn
    obtain ⟨n, rfl⟩ : ∃ k, n = k + 1 := ⟨n - 1, by omega⟩
    obtain ⟨ρ, e1, e2, e3⟩ := xc_told (a := (x : Int)) h (by unfold inR; omega)
    rw [aTld, if_pos (by omega)] at e2
    obtain ⟨τ, g1, g2, g3⟩ := ih (x + 1) ρ n e2 (by omega) (by omega)
    have ed : dgS (rTld α) h0 (x + 1) = 31 * dgS (rTld α) h0 x + i2lI (rTld α x) := rfl
    rw [show x + 1 + r = x + (r + 1) by omega, show ((x + 1 : Nat) : Int) = (x : Int) + 1 by omega, ed] at g1
    exact ⟨τ, by rw [lp_X9_digest_6, ilw_f (by omega), e1, bd2_s, bnd_d]; exact g1, g2, fun o ho => by rw [g3 o ho, e3 o ho]⟩
def uFl (α : St) (i : Int) : Int := α (1 + i % 6) (i / 6)
def tFl (α : St) (i : Int) : Int := α (7 + i % 3) (i / 3)
theorem dc_47 {α : St} {h0 : Int} {u : Nat} (kx : St → Int → Option (Int × St)) (hw : WF α) (hu : (u : Int) < α 0 0) : ∀ (r x : Nat) (σ : St) (n : Nat), IC σ α → x + r = 6 → r < n → ∃ τ, lp_X9_digest_47 u kx n σ (dgS (uFl α) h0 (6 * u + x)) x = kx τ (dgS (uFl α) h0 (6 * u + (x + r))) ∧ cH σ τ α := by
  intro r
  have w3 := hw.1.2.1
  induction r with
  | zero =>
    intro x σ n h h1 hn
    obtain ⟨n, rfl⟩ : ∃ k, n = k + 1 := ⟨n - 1, by omega⟩
    exact ⟨σ, by rw [lp_X9_digest_47, ilw_t (by omega)]; rfl, h, fun _ _ => rfl⟩
  | succ r ih =>
    intro x σ n h h1 hn
    obtain ⟨n, rfl⟩ : ∃ k, n = k + 1 := ⟨n - 1, by omega⟩
    obtain ⟨ρ, e1, e2, e3⟩ := xc_of (u := (u : Int)) (a := (x : Int)) h hw (by unfold inR; omega) (by unfold inR; omega)
    rw [aOf, if_pos (by omega)] at e2
    rw [rOf, if_pos (by omega), if_pos (by omega)] at e1
    obtain ⟨τ, g1, g2, g3⟩ := ih (x + 1) ρ n e2 (by omega) (by omega)
    have ef : uFl α ((6 * u + x : Nat) : Int) = α (1 + x) u := by
      unfold uFl
      rw [show ((6 * u + x : Nat) : Int) % 6 = x by omega, show ((6 * u + x : Nat) : Int) / 6 = u by omega]
    have ed : dgS (uFl α) h0 (6 * u + (x + 1)) = 31 * dgS (uFl α) h0 (6 * u + x) + i2lI (uFl α ((6 * u + x : Nat) : Int)) := rfl
    rw [show x + 1 + r = x + (r + 1) by omega, show ((x + 1 : Nat) : Int) = (x : Int) + 1 by omega, ed, ef] at g1
    exact ⟨τ, by rw [lp_X9_digest_47, ilw_f (by omega), e1, bd2_s, bnd_d]; exact g1, g2, fun o ho => by rw [g3 o ho, e3 o ho]⟩
theorem dc_33 {α : St} {h0 : Int} (kx : St → Int → Option (Int × St)) (hw : WF α) : ∀ (r x : Nat) (σ : St) (n : Nat), IC σ α → (x : Int) + r = α 0 0 → r < n → ∃ τ, lp_X9_digest_33 kx n σ (dgS (uFl α) h0 (6 * x)) x = kx τ (dgS (uFl α) h0 (6 * (x + r))) ∧ cH σ τ α := by
  intro r
  have w3 := hw.1.2.1
  induction r with
  | zero =>
    intro x σ n h h1 hn
    obtain ⟨n, rfl⟩ : ∃ k, n = k + 1 := ⟨n - 1, by omega⟩
    have hs := h.1.1
    exact ⟨σ, by rw [lp_X9_digest_33, iww_f (by omega)]; rfl, h, fun _ _ => rfl⟩
  | succ r ih =>
    intro x σ n h h1 hn
    obtain ⟨n, rfl⟩ : ∃ k, n = k + 1 := ⟨n - 1, by omega⟩
    have hs := h.1.1
    obtain ⟨ρ, e1, e2, e3⟩ := dc_47 (h0 := h0) (u := x) (fun σ12 y13 => lp_X9_digest_33 kx n σ12 y13 ((x : Int) + 1)) hw (by omega) 6 0 σ 1000 h (by omega) (by omega)
    obtain ⟨τ, g1, g2, g3⟩ := ih (x + 1) ρ n e2 (by omega) (by omega)
    rw [show x + 1 + r = x + (r + 1) by omega, show ((x + 1 : Nat) : Int) = (x : Int) + 1 by omega] at g1
    have e0 : (((0 : Nat)) : Int) = 0 := rfl
    rw [e0, show 6 * x + 0 = 6 * x by omega, show 6 * x + (0 + 6) = 6 * (x + 1) by omega] at e1
    exact ⟨τ, by rw [lp_X9_digest_33, iww_t (by omega), e1, g1], g2, fun o ho => by rw [g3 o ho, e3 o ho]⟩
theorem dc_82 {σ α : St} {h0 : Int} (kx : St → Int → Option (Int × St)) (h : IC σ α) : ∀ (r x n : Nat), x + r = 6 → r < n → lp_X9_digest_82 kx n σ (dgS (α 10) h0 x) x = kx σ (dgS (α 10) h0 (x + r)) := by
  intro r
  induction r with
  | zero =>
    intro x n h1 hn
    obtain ⟨n, rfl⟩ : ∃ k, n = k + 1 := ⟨n - 1, by omega⟩
    rw [lp_X9_digest_82, iwl_f (by omega)]; rfl
  | succ r ih =>
    intro x n h1 hn
    obtain ⟨n, rfl⟩ : ∃ k, n = k + 1 := ⟨n - 1, by omega⟩
    have g1 := ih (x + 1) n (by omega) (by omega)
    have ed : dgS (α 10) h0 (x + 1) = 31 * dgS (α 10) h0 x + i2lI (α 10 x) := rfl
    rw [show x + 1 + r = x + (r + 1) by omega, show ((x + 1 : Nat) : Int) = (x : Int) + 1 by omega, ed] at g1
    rw [lp_X9_digest_82, iwl_t (by omega), rdA_t (by omega), h.2.2.1.2.2.2.2.1 x (by omega) (by omega), bnd_d]
    exact g1
theorem dc_124 {α : St} {h0 : Int} {u : Nat} (kx : St → Int → Option (Int × St)) (hw : WF α) (hu : (u : Int) < α 0 1) : ∀ (r x : Nat) (σ : St) (n : Nat), IC σ α → x + r = 3 → r < n → ∃ τ, lp_X9_digest_124 u kx n σ (dgS (tFl α) h0 (3 * u + x)) x = kx τ (dgS (tFl α) h0 (3 * u + (x + r))) ∧ cH σ τ α := by
  intro r
  have w2 := hw.2.1.2.1
  induction r with
  | zero =>
    intro x σ n h h1 hn
    obtain ⟨n, rfl⟩ : ∃ k, n = k + 1 := ⟨n - 1, by omega⟩
    exact ⟨σ, by rw [lp_X9_digest_124, ilw_t (by omega)]; rfl, h, fun _ _ => rfl⟩
  | succ r ih =>
    intro x σ n h h1 hn
    obtain ⟨n, rfl⟩ : ∃ k, n = k + 1 := ⟨n - 1, by omega⟩
    obtain ⟨ρ, e1, e2, e3⟩ := xc_target (k := (u : Int)) (a := (x : Int)) h hw (by unfold inR; omega) (by unfold inR; omega)
    rw [aTar, if_pos (by omega)] at e2
    rw [rTar, if_pos (by omega), if_pos (by omega)] at e1
    obtain ⟨τ, g1, g2, g3⟩ := ih (x + 1) ρ n e2 (by omega) (by omega)
    have ef : tFl α ((3 * u + x : Nat) : Int) = α (7 + x) u := by
      unfold tFl
      rw [show ((3 * u + x : Nat) : Int) % 3 = x by omega, show ((3 * u + x : Nat) : Int) / 3 = u by omega]
    have ed : dgS (tFl α) h0 (3 * u + (x + 1)) = 31 * dgS (tFl α) h0 (3 * u + x) + i2lI (tFl α ((3 * u + x : Nat) : Int)) := rfl
    rw [show x + 1 + r = x + (r + 1) by omega, show ((x + 1 : Nat) : Int) = (x : Int) + 1 by omega, ed, ef] at g1
    exact ⟨τ, by rw [lp_X9_digest_124, ilw_f (by omega), e1, bd2_s, bnd_d]; exact g1, g2, fun o ho => by rw [g3 o ho, e3 o ho]⟩
theorem dc_110 {α : St} {h0 : Int} (kx : St → Int → Option (Int × St)) (hw : WF α) : ∀ (r x : Nat) (σ : St) (n : Nat), IC σ α → (x : Int) + r = α 0 1 → r < n → ∃ τ, lp_X9_digest_110 kx n σ (dgS (tFl α) h0 (3 * x)) x = kx τ (dgS (tFl α) h0 (3 * (x + r))) ∧ cH σ τ α := by
  intro r
  have w2 := hw.2.1.2.1
  induction r with
  | zero =>
    intro x σ n h h1 hn
    obtain ⟨n, rfl⟩ : ∃ k, n = k + 1 := ⟨n - 1, by omega⟩
    have hs := h.2.1.1
    exact ⟨σ, by rw [lp_X9_digest_110, iww_f (by omega)]; rfl, h, fun _ _ => rfl⟩
  | succ r ih =>
    intro x σ n h h1 hn
    obtain ⟨n, rfl⟩ : ∃ k, n = k + 1 := ⟨n - 1, by omega⟩
    have hs := h.2.1.1
    obtain ⟨ρ, e1, e2, e3⟩ := dc_124 (h0 := h0) (u := x) (fun σ26 y27 => lp_X9_digest_110 kx n σ26 y27 ((x : Int) + 1)) hw (by omega) 3 0 σ 1000 h (by omega) (by omega)
    obtain ⟨τ, g1, g2, g3⟩ := ih (x + 1) ρ n e2 (by omega) (by omega)
    rw [show x + 1 + r = x + (r + 1) by omega, show ((x + 1 : Nat) : Int) = (x : Int) + 1 by omega] at g1
    have e0 : (((0 : Nat)) : Int) = 0 := rfl
    rw [e0, show 3 * x + 0 = 3 * x by omega, show 3 * x + (0 + 3) = 3 * (x + 1) by omega] at e1
    exact ⟨τ, by rw [lp_X9_digest_110, iww_t (by omega), e1, g1], g2, fun o ho => by rw [g3 o ho, e3 o ho]⟩
theorem dc_222 {σ α : St} {p : Int → Int} {h0 : Int} (kx : St → Int → Option (Int × St)) (h : IC σ α) (hw : WF α) (hq : ∀ k, 0 ≤ k → k < α 0 1 → σ 69 k = p k) : ∀ (r x n : Nat), (x : Int) + r = α 0 1 → r < n → lp_X9_digest_222 kx n σ (dgS p h0 x) x = kx σ (dgS p h0 (x + r)) := by
  intro r
  have w2 := hw.2.1.2.1
  have hs := h.2.1.1
  induction r with
  | zero =>
    intro x n h1 hn
    obtain ⟨n, rfl⟩ : ∃ k, n = k + 1 := ⟨n - 1, by omega⟩
    rw [lp_X9_digest_222, iww_f (by omega)]; rfl
  | succ r ih =>
    intro x n h1 hn
    obtain ⟨n, rfl⟩ : ∃ k, n = k + 1 := ⟨n - 1, by omega⟩
    have g1 := ih (x + 1) n (by omega) (by omega)
    have ed : dgS p h0 (x + 1) = 31 * dgS p h0 x + i2lI (p x) := rfl
    rw [show x + 1 + r = x + (r + 1) by omega, show ((x + 1 : Nat) : Int) = (x : Int) + 1 by omega, ed] at g1
    rw [lp_X9_digest_222, iww_t (by omega), rdA_t (by omega), hq x (by omega) (by omega), bnd_d]
    exact g1
def dg1 (α : St) : Int := dgS (tFl α) (dgS (α 10) (dgS (uFl α) (dgS (rTld α) 1987 7) (6 * (α 0 0).toNat)) 6) (3 * (α 0 1).toNat)
def dg2 (α : St) : Int := 31 * (31 * dg1 α + i2lI (α 0 8)) + i2lI (α 0 9)
def rDg (α : St) : Int := if has α (-1) = 1 then dgS (pth α (-1) (α 0 2)) (31 * dg2 α + i2lI (tp α (-1) (α 0 2) 0)) (α 0 1).toNat else 31 * dg2 α + (-1)
def dK4 (σ28 : St) (y29 : Int) : Option (Int × St) :=
  bnd ((31 * y29) + (i2lI (σ28 14 7))) fun v30 =>
  bnd ((31 * v30) + (i2lI (σ28 14 8))) fun v31 =>
  bd2 (f_X9_findChain σ28 (-1)) fun v32 σ33 =>
  if v32 = 0 then
    some ((31 * v31) + (-1), σ33)
  else
    bd1 (f_X0_leastPrice σ33) fun v36 =>
    bnd ((31 * v31) + (i2lI v36)) fun v37 =>
    lp_X9_digest_222 (fun σ41 y42 => some (y42, σ41)) 1000 σ33 v37 0
def dK3 (σ19 : St) (y20 : Int) : Option (Int × St) := lp_X9_digest_110 dK4 1000 σ19 y20 0
def dK2 (σ14 : St) (y15 : Int) : Option (Int × St) := lp_X9_digest_82 dK3 1000 σ14 y15 0
def dK1 (σ5 : St) (y6 : Int) : Option (Int × St) := lp_X9_digest_33 dK2 1000 σ5 y6 0
theorem dg_e {σ : St} : f_X9_digest σ = lp_X9_digest_6 dK1 1000 σ 1987 0 := rfl
theorem xc_digest {σ α : St} (h : IC σ α) (hw : WF α) : oC (f_X9_digest σ) σ α (rDg α) α := by
  have w2 := hw.2.1.2.1
  have w1 := hw.2.1.1
  have w3 := hw.1.2.1
  have w4 := hw.1.1
  have e0 : (((0 : Nat)) : Int) = 0 := rfl
  obtain ⟨σ1, a1, a2, a3⟩ := dc_6 (h0 := 1987) dK1 7 0 σ 1000 h (by omega) (by omega)
  obtain ⟨σ2, b1, b2, b3⟩ := dc_33 (h0 := dgS (rTld α) 1987 7) dK2 hw (α 0 0).toNat 0 σ1 1000 a2 (by omega) (by omega)
  have c1 := dc_82 (h0 := dgS (uFl α) (dgS (rTld α) 1987 7) (6 * (α 0 0).toNat)) dK3 b2 6 0 1000 (by omega) (by omega)
  obtain ⟨σ4, d1, d2, d3⟩ := dc_110 (h0 := dgS (α 10) (dgS (uFl α) (dgS (rTld α) 1987 7) (6 * (α 0 0).toNat)) 6) dK4 hw (α 0 1).toNat 0 σ2 1000 b2 (by omega) (by omega)
  rw [e0] at a1 b1 c1 d1
  rw [Nat.zero_add] at a1 b1 c1 d1
  have hx : f_X9_digest σ = dK4 σ4 (dg1 α) := by
    rw [dg_e]
    have z0 : dgS (rTld α) 1987 0 = 1987 := rfl
    rw [z0] at a1
    rw [a1]
    show lp_X9_digest_33 dK2 1000 σ1 (dgS (rTld α) 1987 7) 0 = _
    rw [show dgS (uFl α) (dgS (rTld α) 1987 7) (6 * 0) = dgS (rTld α) 1987 7 from rfl] at b1
    rw [b1]
    show lp_X9_digest_82 dK3 1000 σ2 (dgS (uFl α) (dgS (rTld α) 1987 7) (6 * (α 0 0).toNat)) 0 = _
    rw [show dgS (α 10) (dgS (uFl α) (dgS (rTld α) 1987 7) (6 * (α 0 0).toNat)) 0 = dgS (uFl α) (dgS (rTld α) 1987 7) (6 * (α 0 0).toNat) from rfl] at c1
    rw [c1]
    show lp_X9_digest_110 dK4 1000 σ2 (dgS (α 10) (dgS (uFl α) (dgS (rTld α) 1987 7) (6 * (α 0 0).toNat)) 6) 0 = _
    rw [show dgS (tFl α) (dgS (α 10) (dgS (uFl α) (dgS (rTld α) 1987 7) (6 * (α 0 0).toNat)) 6) (3 * 0) = dgS (α 10) (dgS (uFl α) (dgS (rTld α) 1987 7) (6 * (α 0 0).toNat)) 6 from rfl] at d1
    rw [d1]
    rfl
  have hf : ∀ o, 118 ≤ o → σ4 o = σ o := fun o ho => by rw [d3 o ho, b3 o ho, a3 o ho]
  have t1 : σ4 14 7 = α 0 8 := d2.2.2.2.2.2.1
  have t2 : σ4 14 8 = α 0 9 := d2.2.2.2.2.2.2.1
  rw [hx]
  unfold dK4 rDg dg2
  rw [t1, t2, bnd_d, bnd_d]
  rcases c_find d2 hw (a := -1) (by omega) with ⟨k1, τ, k2, k3, k4, k5⟩ | ⟨k1, τ, k2, k3, k4⟩
  · rw [has_1 k1, if_pos rfl, k2, bd2_s, if_neg (by omega)]
    unfold f_X0_leastPrice
    rw [rdA_t (by omega), bd1_s, bnd_d, k4.1.1]
    have g := dc_222 (p := pth α (-1) (α 0 2)) (h0 := 31 * (31 * (31 * dg1 α + i2lI (α 0 8)) + i2lI (α 0 9)) + i2lI (tp α (-1) (α 0 2) 0)) (fun σ41 y42 => some (y42, σ41)) k3 hw k4.2 (α 0 1).toNat 0 1000 (by omega) (by omega)
    rw [e0, Nat.zero_add] at g
    exact ⟨τ, g, k3, fun o ho => by rw [k5 o ho, hf o ho]⟩
  · rw [has_0 k1, if_neg (show ¬ (0 : Int) = 1 by omega), k2, bd2_s, if_pos rfl]
    exact ⟨τ, rfl, k3, fun o ho => by rw [k4 o ho, hf o ho]⟩
theorem dm_6 {σ α : St} {h0 : Int} (kx : St → Int → Option (Int × St)) (h : IM σ α) : ∀ (r x n : Nat), x + r = 7 → r < n → lp_X10_digest_6 kx n σ (dgS (rTld α) h0 x) x = kx σ (dgS (rTld α) h0 (x + r)) := by
  intro r
  induction r with
  | zero =>
    intro x n h1 hn
    obtain ⟨n, rfl⟩ : ∃ k, n = k + 1 := ⟨n - 1, by omega⟩
    rw [lp_X10_digest_6, iwl_f (by omega)]; rfl
  | succ r ih =>
    intro x n h1 hn
    obtain ⟨n, rfl⟩ : ∃ k, n = k + 1 := ⟨n - 1, by omega⟩
    have g1 := ih (x + 1) n (by omega) (by omega)
    have ed : dgS (rTld α) h0 (x + 1) = 31 * dgS (rTld α) h0 x + i2lI (rTld α x) := rfl
    rw [show x + 1 + r = x + (r + 1) by omega, show ((x + 1 : Nat) : Int) = (x : Int) + 1 by omega, ed] at g1
    rw [lp_X10_digest_6, iwl_t (by omega), m_toldOf h (a := (x : Int)) (by omega), bd1_s, bnd_d]
    exact g1
theorem dm_sums_g {σ : St} {f : Int → Int} {h0 o N : Int} (kx : Int → Option Int) (hN : 0 ≤ N ∧ N ≤ 900) (hl : N ≤ uvLn o) (hq : ∀ i, 0 ≤ i → i < N → σ o i = f i) : ∀ (r x n : Nat), (x : Int) + r = N → r < n → lp_X10_sums_6 σ o N kx n (dgS f h0 x) x = kx (dgS f h0 (x + r)) := by
  intro r
  induction r with
  | zero =>
    intro x n h1 hn
    obtain ⟨n, rfl⟩ : ∃ k, n = k + 1 := ⟨n - 1, by omega⟩
    rw [lp_X10_sums_6, iww_f (by omega)]; rfl
  | succ r ih =>
    intro x n h1 hn
    obtain ⟨n, rfl⟩ : ∃ k, n = k + 1 := ⟨n - 1, by omega⟩
    have g1 := ih (x + 1) n (by omega) (by omega)
    have ed : dgS f h0 (x + 1) = 31 * dgS f h0 x + i2lI (f x) := rfl
    rw [show x + 1 + r = x + (r + 1) by omega, show ((x + 1 : Nat) : Int) = (x : Int) + 1 by omega, ed] at g1
    rw [lp_X10_sums_6, iww_t (by omega), rdA_t (by omega), hq x (by omega) (by omega), bnd_d]
    exact g1
theorem dm_sums {σ : St} {f : Int → Int} {h0 o N : Int} (hN : 0 ≤ N ∧ N ≤ 900) (hl : N ≤ uvLn o) (hq : ∀ i, 0 ≤ i → i < N → σ o i = f i) : f_X10_sums σ h0 o N = some (dgS f h0 N.toNat) := by
  have g := dm_sums_g (h0 := h0) (fun y4 => some y4) hN hl hq N.toNat 0 1000 (by omega) (by omega)
  have e0 : (((0 : Nat)) : Int) = 0 := rfl
  rw [e0, Nat.zero_add] at g
  exact g
def dM1 (σ4 : St) (y5 : Int) : Option (Int × St) :=
  bd1 (f_X10_sums σ4 y5 119 (6 * (σ4 118 1))) fun v6 =>
  bd1 (f_X10_sums σ4 v6 121 6) fun v7 =>
  bd1 (f_X10_sums σ4 v7 120 (3 * (σ4 118 3))) fun v8 =>
  bnd ((31 * ((31 * v8) + (i2lI (σ4 118 10)))) + (i2lI (σ4 118 11))) fun v9 =>
  bd2 (f_X10_chainsNow σ4) fun v10 σ11 =>
  if v10 = 0 then
    some ((31 * v9) - 1, σ11)
  else
    bd2 (f_X10_layChain σ11) fun v14 σ15 =>
    bd1 (f_X10_sums σ15 ((31 * v9) + (i2lI (σ11 118 34))) 141 (σ15 118 3)) fun v16 =>
    some (v16, σ15)
theorem dgm_e {σ : St} : f_X10_digest σ = lp_X10_digest_6 dM1 1000 σ 1987 0 := rfl
theorem xm_digest {σ α : St} (h : IM σ α) (hw : WF α) : oM (f_X10_digest σ) σ α (rDg α) α := by
  have w2 := hw.2.1.2.1
  have w1 := hw.2.1.1
  have w3 := hw.1.2.1
  have w4 := hw.1.1
  have e0 : (((0 : Nat)) : Int) = 0 := rfl
  have a1 := dm_6 (h0 := 1987) dM1 h 7 0 1000 (by omega) (by omega)
  rw [e0, Nat.zero_add, show dgS (rTld α) 1987 0 = 1987 from rfl] at a1
  rw [dgm_e, a1]
  have u1 : σ 118 1 = α 0 0 := h.1.1
  have u3 : σ 118 3 = α 0 1 := h.2.1.1
  have t1 : σ 118 10 = α 0 8 := h.2.2.2.2.1
  have t2 : σ 118 11 = α 0 9 := h.2.2.2.2.2.1
  have b1 := dm_sums (σ := σ) (f := uFl α) (h0 := dgS (rTld α) 1987 7) (o := 119) (N := 6 * α 0 0) (by omega) (by rw [ln_119]; omega) (fun i i1 i2 => by
    have g := h.1.2 (i / 6) (i % 6) (by omega) (by omega) (by omega) (by omega)
    rw [show 6 * (i / 6) + i % 6 = i by omega] at g
    exact g)
  have b2 := dm_sums (σ := σ) (f := α 10) (h0 := dgS (uFl α) (dgS (rTld α) 1987 7) (6 * α 0 0).toNat) (o := 121) (N := 6) (by omega) (by rw [ln_121]; omega) (fun i i1 i2 => h.2.2.1.2.2.2.2.1 i i1 i2)
  have b3 := dm_sums (σ := σ) (f := tFl α) (h0 := dgS (α 10) (dgS (uFl α) (dgS (rTld α) 1987 7) (6 * α 0 0).toNat) (6 : Int).toNat) (o := 120) (N := 3 * α 0 1) (by omega) (by rw [ln_120]; omega) (fun i i1 i2 => by
    have g := h.2.1.2 (i / 3) (i % 3) (by omega) (by omega) (by omega) (by omega)
    rw [show 3 * (i / 3) + i % 3 = i by omega] at g
    exact g)
  rw [show (6 * α 0 0).toNat = 6 * (α 0 0).toNat by omega, show (6 : Int).toNat = 6 from rfl, show (3 * α 0 1).toNat = 3 * (α 0 1).toNat by omega] at b3
  rw [show (6 * α 0 0).toNat = 6 * (α 0 0).toNat by omega, show (6 : Int).toNat = 6 from rfl] at b2
  rw [show (6 * α 0 0).toNat = 6 * (α 0 0).toNat by omega] at b1
  unfold dM1 rDg
  rw [u1, b1, bd1_s, b2, bd1_s, u3, b3, bd1_s, bnd_d, t1, t2]
  have ed : 31 * (31 * dgS (tFl α) (dgS (α 10) (dgS (uFl α) (dgS (rTld α) 1987 7) (6 * (α 0 0).toNat)) 6) (3 * (α 0 1).toNat) + i2lI (α 0 8)) + i2lI (α 0 9) = dg2 α := rfl
  rw [ed]
  rcases m_now h hw with ⟨k1, τ, k2, k3, k4, k5, k6⟩ | ⟨k1, τ, k2, k3, k4⟩
  · rw [has_1 k1, if_pos rfl, k2, bd2_s, if_neg (by omega)]
    obtain ⟨ρ, g1, g2, g3, g4⟩ := m_lay k5 hw k1 k3 k4
    have u5 : ρ 118 3 = α 0 1 := g3.2.1.1
    have c1 := dm_sums (σ := ρ) (f := pth α (-1) (α 0 2)) (h0 := 31 * dg2 α + i2lI (tp α (-1) (α 0 2) 0)) (o := 141) (N := α 0 1) (by omega) (by rw [ln_141]; omega) g2
    rw [g1, bd2_s, u5, k3.1.1, c1, bd1_s]
    exact ⟨ρ, rfl, g3, fun o ho => by rw [g4 o (by omega), k6 o ho]⟩
  · rw [has_0 k1, if_neg (show ¬ (0 : Int) = 1 by omega), k2, bd2_s, if_pos rfl]
    exact ⟨τ, rfl, k3, k4⟩
end
section
/-! ===== bits of a long ===== -/
theorem i64_n {z : Int64} {n : Nat} (h : z.toBitVec.toNat = n) (hn : n < 9223372036854775808) : z.toInt = n := by
  show z.toBitVec.toInt = n
  rw [BitVec.toInt_eq_toNat_of_lt (by rw [h]; omega), h]
theorem lV_n {n : Nat} (hn : n < 9223372036854775808) : (lV (n : Int)).toBitVec.toNat = n := by
  show (BitVec.ofInt 64 (n : Int)).toNat = n
  rw [BitVec.ofInt_natCast, BitVec.toNat_ofNat]
  omega
theorem orL_n {a b : Nat} (ha : a < 16777216) (hb : b < 16777216) : orL (a : Int) (b : Int) = ((a ||| b : Nat) : Int) := by
  have hc : a ||| b < 2 ^ 24 := Nat.or_lt_two_pow (by omega) (by omega)
  exact i64_n (by
    show ((lV (a : Int)).toBitVec ||| (lV (b : Int)).toBitVec).toNat = _
    rw [BitVec.toNat_or, lV_n (by omega), lV_n (by omega)]) (by omega)
theorem andL_n {a b : Nat} (ha : a < 9223372036854775808) (hb : b < 9223372036854775808) : andL (a : Int) (b : Int) = ((a &&& b : Nat) : Int) := by
  have hc : a &&& b ≤ a := Nat.and_le_left
  exact i64_n (by
    show ((lV (a : Int)).toBitVec &&& (lV (b : Int)).toBitVec).toNat = _
    rw [BitVec.toNat_and, lV_n ha, lV_n hb]) (by omega)
theorem ushrL_n {a k : Nat} {y : Int} (ha : a < 9223372036854775808) (hy : ((iV y).toInt64.toUInt64 &&& Int64.toUInt64 63).toNat % 64 = k) : ushrL (a : Int) y = ((a / 2 ^ k : Nat) : Int) := by
  have hd : a / 2 ^ k ≤ a := Nat.div_le_self _ _
  exact i64_n (by
    show ((lV (a : Int)).toUInt64 >>> ((iV y).toInt64.toUInt64 &&& Int64.toUInt64 63)).toNat = _
    rw [UInt64.toNat_shiftRight, hy, Nat.shiftRight_eq_div_pow]
    show (lV (a : Int)).toBitVec.toNat / _ = _
    rw [lV_n ha]) (by omega)
theorem i32_n {z : Int32} {n : Nat} (h : z.toBitVec.toNat = n) (hn : n < 2147483648) : z.toInt = n := by
  show z.toBitVec.toInt = n
  rw [BitVec.toInt_eq_toNat_of_lt (by rw [h]; omega), h]
theorem iV_n {n : Nat} (hn : n < 2147483648) : (iV (n : Int)).toBitVec.toNat = n := by
  show (BitVec.ofInt 32 (n : Int)).toNat = n
  rw [BitVec.ofInt_natCast, BitVec.toNat_ofNat]
  omega
theorem andI_n {a b : Nat} (ha : a < 2147483648) (hb : b < 2147483648) : andI (a : Int) (b : Int) = ((a &&& b : Nat) : Int) := by
  have hc : a &&& b ≤ a := Nat.and_le_left
  exact i32_n (by
    show ((iV (a : Int)).toBitVec &&& (iV (b : Int)).toBitVec).toNat = _
    rw [BitVec.toNat_and, iV_n ha, iV_n hb]) (by omega)
theorem and_sp (a b : Nat) : a &&& b = ((a % 256) &&& (b % 256)) + 256 * ((a / 256) &&& (b / 256)) := by
  have h1 : (a &&& b) % 256 = (a % 256) &&& (b % 256) := Nat.and_mod_two_pow (n := 8)
  have h2 : (a &&& b) / 256 = (a / 256) &&& (b / 256) := Nat.and_div_two_pow (n := 8)
  have h3 := Nat.mod_add_div (a &&& b) 256
  rw [h1, h2] at h3
  exact h3.symm
theorem and_3 {y m : Nat} (hy : y < 16777216) : y &&& m = ((y % 256) &&& (m % 256)) + 256 * (((y / 256) % 256) &&& ((m / 256) % 256)) + 65536 * ((y / 65536) &&& ((m / 65536) % 256)) := by
  have h1 := and_sp y m
  have h2 := and_sp (y / 256) (m / 256)
  have h3 := and_sp (y / 65536) (m / 65536)
  rw [show y / 65536 / 256 = 0 by omega, Nat.zero_and, show y / 65536 % 256 = y / 65536 by omega] at h3
  rw [show y / 256 / 256 = y / 65536 by omega, show m / 256 / 256 = m / 65536 by omega] at h2
  omega
/-- bits below n -/
def bS (x : Nat) : Nat → Nat
  | 0 => 0
  | n + 1 => bS x n + (if x.testBit n then 1 else 0)
theorem bS_add (x n : Nat) : ∀ m : Nat, bS x (n + m) = bS x n + bS (x / 2 ^ n) m := by
  intro m
  induction m with
  | zero => rfl
  | succ m ih =>
    rw [show n + (m + 1) = (n + m) + 1 by omega, bS, bS, ih, Nat.testBit_div_two_pow, Nat.add_comm m n]
    omega
theorem bS_mod (x n : Nat) : ∀ m : Nat, m ≤ n → bS (x % 2 ^ n) m = bS x m := by
  intro m
  induction m with
  | zero => intro _; rfl
  | succ m ih =>
    intro h
    rw [bS, bS, ih (by omega), Nat.testBit_mod_two_pow, decide_eq_true (show m < n by omega), Bool.true_and]
theorem bS_3 (x : Nat) (hx : x < 16777216) : bS x 24 = bS (x % 256) 8 + bS (x / 256 % 256) 8 + bS (x / 65536) 8 := by
  have h1 : bS x 24 = bS x 8 + bS (x / 2 ^ 8) 16 := bS_add x 8 16
  have h2 : bS (x / 2 ^ 8) 16 = bS (x / 2 ^ 8) 8 + bS (x / 2 ^ 8 / 2 ^ 8) 8 := bS_add (x / 2 ^ 8) 8 8
  have h3 := bS_mod x 8 8 (by omega)
  have h4 := bS_mod (x / 2 ^ 8) 8 8 (by omega)
  have e : x / 2 ^ 8 / 2 ^ 8 = x / 65536 := by omega
  rw [e] at h2
  rw [show (2 : Nat) ^ 8 = 256 from rfl] at h1 h2 h3 h4
  omega
def pc1 (b : Nat) : Nat := b - ((b / 2) &&& 85)
def pc2 (w : Nat) : Nat := (w &&& 51) + ((w / 4) &&& 51)
abbrev pcA : Prop := ∀ b : Nat, b < 256 → ((b / 2) &&& 85) ≤ b ∧ ((b / 2 + 128) &&& 85) = ((b / 2) &&& 85) ∧ ((b / 4 + 64) &&& 51) = ((b / 4) &&& 51) ∧ ((b / 4 + 128) &&& 51) = ((b / 4) &&& 51) ∧ ((b / 4 + 192) &&& 51) = ((b / 4) &&& 51) ∧ (b &&& 15) = b % 16 ∧ (b &&& 127) = b % 128 ∧ pc2 (pc1 b) < 256 ∧ pc2 (pc1 b) % 16 ≤ 4 ∧ pc2 (pc1 b) / 16 ≤ 4 ∧ pc2 (pc1 b) % 16 + pc2 (pc1 b) / 16 = bS b 8
theorem pc_A : pcA := by decide +kernel
theorem pc_s1 {x b0 b1 b2 : Nat} (h0 : b0 < 256) (h1 : b1 < 256) (h2 : b2 < 256) (hx : x = b0 + 256 * b1 + 65536 * b2) : (x / 2) &&& 6148914691236517205 = ((b0 / 2) &&& 85) + 256 * ((b1 / 2) &&& 85) + 65536 * ((b2 / 2) &&& 85) := by
  rw [and_3 (by omega)]
  have c0 : (x / 2) % 256 = b0 / 2 ∨ (x / 2) % 256 = b0 / 2 + 128 := by omega
  have c1 : (x / 2 / 256) % 256 = b1 / 2 ∨ (x / 2 / 256) % 256 = b1 / 2 + 128 := by omega
  have c2 : x / 2 / 65536 = b2 / 2 := by omega
  have q0 : (x / 2) % 256 &&& 85 = (b0 / 2) &&& 85 := by
    rcases c0 with e | e
    · rw [e]
    · rw [e]; exact (pc_A b0 h0).2.1
  have q1 : (x / 2 / 256) % 256 &&& 85 = (b1 / 2) &&& 85 := by
    rcases c1 with e | e
    · rw [e]
    · rw [e]; exact (pc_A b1 h1).2.1
  rw [c2, show 6148914691236517205 % 256 = 85 from rfl, q0, q1]
theorem pc_s2 {x b0 b1 b2 : Nat} (h0 : b0 < 256) (h1 : b1 < 256) (h2 : b2 < 256) (hx : x = b0 + 256 * b1 + 65536 * b2) : (x &&& 3689348814741910323) + ((x / 4) &&& 3689348814741910323) = pc2 b0 + 256 * pc2 b1 + 65536 * pc2 b2 := by
  rw [and_3 (y := x) (by omega), and_3 (y := x / 4) (by omega)]
  have c0 : (x / 4) % 256 = b0 / 4 ∨ (x / 4) % 256 = b0 / 4 + 64 ∨ (x / 4) % 256 = b0 / 4 + 128 ∨ (x / 4) % 256 = b0 / 4 + 192 := by omega
  have c1 : (x / 4 / 256) % 256 = b1 / 4 ∨ (x / 4 / 256) % 256 = b1 / 4 + 64 ∨ (x / 4 / 256) % 256 = b1 / 4 + 128 ∨ (x / 4 / 256) % 256 = b1 / 4 + 192 := by omega
  have c2 : x / 4 / 65536 = b2 / 4 := by omega
  have k0 : x % 256 = b0 := by omega
  have k1 : x / 256 % 256 = b1 := by omega
  have k2 : x / 65536 = b2 := by omega
  have q0 : (x / 4) % 256 &&& 51 = (b0 / 4) &&& 51 := by
    rcases c0 with e | e | e | e
    · rw [e]
    · rw [e]; exact (pc_A b0 h0).2.2.1
    · rw [e]; exact (pc_A b0 h0).2.2.2.1
    · rw [e]; exact (pc_A b0 h0).2.2.2.2.1
  have q1 : (x / 4 / 256) % 256 &&& 51 = (b1 / 4) &&& 51 := by
    rcases c1 with e | e | e | e
    · rw [e]
    · rw [e]; exact (pc_A b1 h1).2.2.1
    · rw [e]; exact (pc_A b1 h1).2.2.2.1
    · rw [e]; exact (pc_A b1 h1).2.2.2.2.1
  rw [c2, show 3689348814741910323 % 256 = 51 from rfl, q0, q1, k0, k1, k2]
  clear q0 q1 c0 c1 c2
  unfold pc2
  generalize b0 &&& 51 = y0
  generalize b1 &&& 51 = y1
  generalize b2 &&& 51 = y2
  generalize (b0 / 4) &&& 51 = z0
  generalize (b1 / 4) &&& 51 = z1
  generalize (b2 / 4) &&& 51 = z2
  omega
theorem dm_16 {w a q : Nat} (h : w = a + 16 * q) (ha : a < 16) : w / 16 = q := by omega
theorem dm_256 {w a q : Nat} (h : w = a + 256 * q) (ha : a < 256) : w / 256 = q ∧ w % 256 = a := by omega
theorem dm_64k {w : Nat} : w / 65536 = w / 256 / 256 := by omega
theorem pc_nb {l h : Nat} (a : l ≤ 8) (b : h ≤ 8) : l + 16 * h < 256 ∧ (l + 16 * h) % 16 = l := by omega
theorem pc_s3 {w l0 h0 l1 h1 l2 h2 : Nat} (a0 : l0 ≤ 4) (b0 : h0 ≤ 4) (a1 : l1 ≤ 4) (b1 : h1 ≤ 4) (a2 : l2 ≤ 4) (b2 : h2 ≤ 4) (hw : w = (l0 + 16 * h0) + 256 * (l1 + 16 * h1) + 65536 * (l2 + 16 * h2)) : (w + w / 16) &&& 1085102592571150095 = (l0 + h0) + 256 * (l1 + h1) + 65536 * (l2 + h2) := by
  have d : w / 16 = h0 + 16 * l1 + 256 * h1 + 4096 * l2 + 65536 * h2 := dm_16 (a := l0) (by rw [hw]; simp only [Nat.mul_add, ← Nat.mul_assoc]; simp only [Nat.reduceMul]; ac_rfl) (by omega)
  obtain ⟨y, hy⟩ : ∃ y, y = w + w / 16 := ⟨_, rfl⟩
  obtain ⟨A, hA⟩ : ∃ A, A = (l0 + h0) + 16 * (h0 + l1) := ⟨_, rfl⟩
  obtain ⟨B, hB⟩ : ∃ B, B = (l1 + h1) + 16 * (h1 + l2) := ⟨_, rfl⟩
  obtain ⟨C, hC⟩ : ∃ C, C = (l2 + h2) + 16 * h2 := ⟨_, rfl⟩
  have s : y = A + 256 * (B + 256 * C) := by rw [d] at hy; omega
  have nA := pc_nb (show l0 + h0 ≤ 8 by omega) (show h0 + l1 ≤ 8 by omega)
  have nB := pc_nb (show l1 + h1 ≤ 8 by omega) (show h1 + l2 ≤ 8 by omega)
  have nC := pc_nb (show l2 + h2 ≤ 8 by omega) (show h2 ≤ 8 by omega)
  rw [← hA] at nA
  rw [← hB] at nB
  rw [← hC] at nC
  have g1 := dm_256 s nA.1
  have g2 := dm_256 (w := B + 256 * C) rfl nB.1
  have yl : y < 16777216 := by clear hy d hw hA hB hC; omega
  rw [← hy, and_3 yl, show 1085102592571150095 % 256 = 15 from rfl, dm_64k, g1.1, g1.2, g2.1, g2.2, (pc_A A nA.1).2.2.2.2.2.1, (pc_A B nB.1).2.2.2.2.2.1, (pc_A C nC.1).2.2.2.2.2.1, nA.2, nB.2, nC.2]
theorem pc_s4 {z p0 p1 p2 : Nat} (a0 : p0 ≤ 8) (a1 : p1 ≤ 8) (a2 : p2 ≤ 8) (hz : z = p0 + 256 * p1 + 65536 * p2) : (z + z / 2 ^ 8 + (z + z / 2 ^ 8) / 2 ^ 16 + (z + z / 2 ^ 8 + (z + z / 2 ^ 8) / 2 ^ 16) / 2 ^ 32) % 128 = p0 + p1 + p2 ∧ z + z / 2 ^ 8 < 16777216 ∧ z + z / 2 ^ 8 + (z + z / 2 ^ 8) / 2 ^ 16 < 16777216 ∧ z + z / 2 ^ 8 + (z + z / 2 ^ 8) / 2 ^ 16 + (z + z / 2 ^ 8 + (z + z / 2 ^ 8) / 2 ^ 16) / 2 ^ 32 < 16777216 := by
  have d1 : z / 2 ^ 8 = p1 + 256 * p2 := by omega
  rw [d1]
  have d2 : (z + (p1 + 256 * p2)) / 2 ^ 16 = p2 := by omega
  rw [d2]
  have d3 : (z + (p1 + 256 * p2) + p2) / 2 ^ 32 = 0 := by omega
  rw [d3]
  omega
theorem pc_ar {x u b0 b1 b2 y0 y1 y2 : Nat} (hx : x = b0 + 256 * b1 + 65536 * b2) (hu : u = y0 + 256 * y1 + 65536 * y2) (c0 : y0 ≤ b0) (c1 : y1 ≤ b1) (c2 : y2 ≤ b2) : u ≤ x ∧ x - u = (b0 - y0) + 256 * (b1 - y1) + 65536 * (b2 - y2) := by omega
theorem pc_lt {w a b c : Nat} (hw : w = a + 256 * b + 65536 * c) (h0 : a < 256) (h1 : b < 256) (h2 : c < 256) : w < 16777216 := by omega
theorem pc_by {x : Nat} (hx : x < 16777216) : ∃ b0 b1 b2 : Nat, b0 < 256 ∧ b1 < 256 ∧ b2 < 256 ∧ x = b0 + 256 * b1 + 65536 * b2 ∧ bS x 24 = bS b0 8 + bS b1 8 + bS b2 8 := ⟨x % 256, x / 256 % 256, x / 65536, by omega, by omega, by omega, by omega, bS_3 x hx⟩
theorem pc_nib {w : Nat} : w = w % 16 + 16 * (w / 16) := by omega
theorem pc_s0 {x : Nat} (hx : x < 16777216) : ∃ u v w z : Nat, u = ((x / 2) &&& 6148914691236517205) ∧ u ≤ x ∧ v = x - u ∧ w = (v &&& 3689348814741910323) + ((v / 4) &&& 3689348814741910323) ∧ z = ((w + w / 16) &&& 1085102592571150095) ∧ v < 16777216 ∧ w < 16777216 ∧ ∃ p0 p1 p2 : Nat, p0 ≤ 8 ∧ p1 ≤ 8 ∧ p2 ≤ 8 ∧ z = p0 + 256 * p1 + 65536 * p2 ∧ p0 + p1 + p2 = bS x 24 := by
  obtain ⟨b0, b1, b2, h0, h1, h2, ex, hb⟩ := pc_by hx
  obtain ⟨c0, _, _, _, _, _, _, g0, l0, m0, n0⟩ := pc_A b0 h0
  obtain ⟨c1, _, _, _, _, _, _, g1, l1, m1, n1⟩ := pc_A b1 h1
  obtain ⟨c2, _, _, _, _, _, _, g2, l2, m2, n2⟩ := pc_A b2 h2
  have v1 := pc_ar ex (pc_s1 h0 h1 h2 ex) c0 c1 c2
  have v2 : x - ((x / 2) &&& 6148914691236517205) = pc1 b0 + 256 * pc1 b1 + 65536 * pc1 b2 := v1.2
  have k0 : pc1 b0 < 256 := Nat.lt_of_le_of_lt (Nat.sub_le _ _) h0
  have k1 : pc1 b1 < 256 := Nat.lt_of_le_of_lt (Nat.sub_le _ _) h1
  have k2 : pc1 b2 < 256 := Nat.lt_of_le_of_lt (Nat.sub_le _ _) h2
  have s2 := pc_s2 k0 k1 k2 v2
  have s3 := pc_s3 (w := pc2 (pc1 b0) + 256 * pc2 (pc1 b1) + 65536 * pc2 (pc1 b2)) l0 m0 l1 m1 l2 m2 (by rw [← pc_nib, ← pc_nib, ← pc_nib])
  refine ⟨_, _, _, _, rfl, v1.1, rfl, rfl, rfl, pc_lt v2 k0 k1 k2, pc_lt s2 g0 g1 g2, pc2 (pc1 b0) % 16 + pc2 (pc1 b0) / 16, pc2 (pc1 b1) % 16 + pc2 (pc1 b1) / 16, pc2 (pc1 b2) % 16 + pc2 (pc1 b2) / 16, Nat.add_le_add l0 m0, Nat.add_le_add l1 m1, Nat.add_le_add l2 m2, ?_, ?_⟩
  · rw [s2, s3]
  · rw [hb, n0, n1, n2]
theorem big_n {n : Nat} (h : n < 16777216) : n < 9223372036854775808 := by omega
theorem big_d {n k : Nat} (h : n < 16777216) : n / k < 9223372036854775808 := big_n (Nat.lt_of_le_of_lt (Nat.div_le_self _ _) h)
theorem big_a {n : Nat} (h : n < 16777216) : n + n / 16 < 9223372036854775808 := by omega
theorem big_i {n : Nat} (h : n < 16777216) : n < 2147483648 := by omega
theorem big_s {x u v : Nat} (h : u ≤ x) (e : v = x - u) : (x : Int) - (u : Int) = (v : Int) := by omega
theorem pc_zl {z p0 p1 p2 : Nat} (a0 : p0 ≤ 8) (a1 : p1 ≤ 8) (a2 : p2 ≤ 8) (hz : z = p0 + 256 * p1 + 65536 * p2) : z < 16777216 := by omega
theorem pop_n {x : Nat} (hx : x < 16777216) : f_J13_bitCount_95d88 (x : Int) = ((bS x 24 : Nat) : Int) := by
  obtain ⟨u, v, w, z, hu, ul, hv, hW, hz, lv, lw, p0, p1, p2, k0, k1, k2, z3, hs⟩ := pc_s0 hx
  obtain ⟨f1, f2, f3, f4⟩ := pc_s4 k0 k1 k2 z3
  have lz : z < 16777216 := pc_zl k0 k1 k2 z3
  have f7 : ∀ y : Nat, y &&& 127 = y % 128 := fun y => Nat.and_two_pow_sub_one_eq_mod y 7
  have i1 := big_s ul hv
  unfold f_J13_bitCount_95d88
  rw [bnd_d, ushrL_n (a := x) (k := 1) (big_n hx) (by decide +kernel)]
  rw [show (6148914691236517205 : Int) = ((6148914691236517205 : Nat) : Int) from rfl, show x / 2 ^ 1 = x / 2 from rfl, andL_n (a := x / 2) (b := 6148914691236517205) (big_d hx) (by decide +kernel), ← hu, i1]
  rw [bnd_d, ushrL_n (a := v) (k := 2) (big_n lv) (by decide +kernel)]
  rw [show (3689348814741910323 : Int) = ((3689348814741910323 : Nat) : Int) from rfl, show v / 2 ^ 2 = v / 4 from rfl, andL_n (a := v) (b := 3689348814741910323) (big_n lv) (by decide +kernel), andL_n (a := v / 4) (b := 3689348814741910323) (big_d lv) (by decide +kernel), ← Int.natCast_add, ← hW]
  rw [bnd_d, ushrL_n (a := w) (k := 4) (big_n lw) (by decide +kernel)]
  rw [show (1085102592571150095 : Int) = ((1085102592571150095 : Nat) : Int) from rfl, show w / 2 ^ 4 = w / 16 from rfl, ← Int.natCast_add, andL_n (a := w + w / 16) (b := 1085102592571150095) (big_a lw) (by decide +kernel), ← hz]
  rw [bnd_d, ushrL_n (a := z) (k := 8) (big_n lz) (by decide +kernel), ← Int.natCast_add]
  rw [bnd_d, ushrL_n (a := z + z / 2 ^ 8) (k := 16) (big_n f2) (by decide +kernel), ← Int.natCast_add]
  rw [bnd_d, ushrL_n (a := z + z / 2 ^ 8 + (z + z / 2 ^ 8) / 2 ^ 16) (k := 32) (big_n f3) (by decide +kernel), ← Int.natCast_add]
  rw [show (127 : Int) = ((127 : Nat) : Int) from rfl, andI_n (big_i f4) (by decide +kernel), f7, f1, hs]
end
section
/-! ===== tree ===== -/
theorem sh1_n : ∀ k : Nat, k < 24 → shlL 1 (k : Int) = ((2 ^ k : Nat) : Int) := by decide +kernel
theorem lfn_r {α : St} {u : Int} (hw : wT α) : 0 ≤ α 13 (lfU α u) ∧ α 13 (lfU α u) < α 0 8 := by
  have p := lfU_p (u := u) hw
  exact (hw.2.2.2.2.2 (lfU α u) p.1 p.2.1).2.2.1 p.2.2
def mkU (α : St) : Nat → Nat
  | 0 => 0
  | u + 1 => mkU α u ||| 2 ^ (α 13 (lfU α u)).toNat
theorem mkU_lt {α : St} (hw : wT α) : ∀ n : Nat, mkU α n < 2 ^ (α 0 8).toNat := by
  intro n
  induction n with
  | zero => exact Nat.two_pow_pos _
  | succ n ih =>
    have q := lfn_r (u := (n : Int)) hw
    rw [mkU]
    exact Nat.or_lt_two_pow ih (Nat.pow_lt_pow_right (by omega) (by omega))
theorem mkU_24 {α : St} (hw : wT α) (n : Nat) : mkU α n < 16777216 := by
  have h := mkU_lt hw n
  have w := hw.2.1.2
  have g : 2 ^ (α 0 8).toNat ≤ 2 ^ 24 := Nat.pow_le_pow_right (by omega) (by omega)
  exact Nat.lt_of_lt_of_le h g
def ihU (α : St) (l : Int) : Nat → Int
  | 0 => 0
  | u + 1 => if ihU α l u = 0 then (if α 13 (lfU α u) = l then 1 else 0) else 1
theorem ihU_t {α : St} {l : Int} (hw : wT α) (hl : 0 ≤ l) : ∀ n : Nat, (ihU α l n = 1 ∧ (mkU α n).testBit l.toNat = true) ∨ (ihU α l n = 0 ∧ (mkU α n).testBit l.toNat = false) := by
  intro n
  induction n with
  | zero => exact Or.inr ⟨rfl, Nat.zero_testBit _⟩
  | succ n ih =>
    have q := lfn_r (u := (n : Int)) hw
    rw [ihU, mkU, Nat.testBit_or, Nat.testBit_two_pow]
    rcases ih with ⟨i1, i2⟩ | ⟨i1, i2⟩
    · left
      rw [i1, if_neg (by omega), i2, Bool.true_or]
      exact ⟨rfl, rfl⟩
    · rw [i1, if_pos rfl, i2, Bool.false_or]
      by_cases c : α 13 (lfU α n) = l
      · left
        rw [if_pos c, decide_eq_true (by rw [c])]
        exact ⟨rfl, rfl⟩
      · right
        rw [if_neg c, decide_eq_false (by omega)]
        exact ⟨rfl, rfl⟩
def emG (α : St) : Nat → Int
  | 0 => 0
  | l + 1 => emG α l + (if ihU α l (α 0 0).toNat = 0 then 1 else 0)
theorem emG_e {α : St} (hw : wT α) : ∀ l : Nat, emG α l = (l : Int) - ((bS (mkU α (α 0 0).toNat) l : Nat) : Int) := by
  intro l
  induction l with
  | zero => rfl
  | succ l ih =>
    rw [emG, bS, ih]
    rcases ihU_t (l := (l : Int)) hw (by omega) (α 0 0).toNat with ⟨i1, i2⟩ | ⟨i1, i2⟩
    · rw [i1, show ((l : Int)).toNat = l by omega] at *
      rw [if_neg (show ¬ (1 : Int) = 0 by omega), if_pos i2]
      omega
    · rw [i1, if_pos rfl]
      rw [show ((l : Int)).toNat = l by omega] at i2
      rw [i2, if_neg (by decide)]
      omega
theorem bS_top {x L : Nat} (hx : x < 2 ^ L) : ∀ m : Nat, bS x (L + m) = bS x L := by
  intro m
  induction m with
  | zero => rfl
  | succ m ih =>
    rw [show L + (m + 1) = (L + m) + 1 by omega, bS, ih, Nat.testBit_lt_two_pow (Nat.lt_of_lt_of_le hx (Nat.pow_le_pow_right (by omega) (by omega)))]
    rfl
theorem em_fin {α : St} (hw : wT α) : emG α (α 0 8).toNat = α 0 8 - ((bS (mkU α (α 0 0).toNat) 24 : Nat) : Int) := by
  have w := hw.2.1
  have h := bS_top (mkU_lt hw (α 0 0).toNat) (24 - (α 0 8).toNat)
  rw [show (α 0 8).toNat + (24 - (α 0 8).toNat) = 24 by omega] at h
  rw [emG_e hw, h]
  omega
theorem c_el {σ α : St} (kx : Int → Option Int) (h : IC σ α) (hw : WF α) : ∀ (r x n : Nat), (x : Int) + r = α 0 0 → r < n → lp_X9_emptyLeaves_4 σ kx n (mkU α x : Nat) x = kx ((mkU α (x + r) : Nat) : Int) := by
  intro r
  have w3 := hw.1.2.1
  have w4 := hw.2.2.2.2.2.1.2
  have hs := h.1.1
  induction r with
  | zero =>
    intro x n h1 hn
    obtain ⟨n, rfl⟩ : ∃ k, n = k + 1 := ⟨n - 1, by omega⟩
    rw [lp_X9_emptyLeaves_4, iww_f (by omega)]; rfl
  | succ r ih =>
    intro x n h1 hn
    obtain ⟨n, rfl⟩ : ∃ k, n = k + 1 := ⟨n - 1, by omega⟩
    have g := ih (x + 1) n (by omega) (by omega)
    have p := lfU_p (u := (x : Int)) hw.2.2.2.2
    have q := lfn_r (u := (x : Int)) hw.2.2.2.2
    have e1 := c_lfU h hw (u := (x : Int)) (by omega) (by omega)
    have e2 := c_num h.2.2.2.2 hw.2.2.2.2 p.1 p.2.1 p.2.2
    have e3 := sh1_n (α 13 (lfU α x)).toNat (by omega)
    rw [show (((α 13 (lfU α x)).toNat : Nat) : Int) = α 13 (lfU α x) by omega] at e3
    have m1 := mkU_24 hw.2.2.2.2 x
    have m2 : 2 ^ (α 13 (lfU α x)).toNat < 16777216 := Nat.pow_lt_pow_right (m := (α 13 (lfU α x)).toNat) (n := 24) (by omega) (by omega)
    rw [show x + 1 + r = x + (r + 1) by omega, show ((x + 1 : Nat) : Int) = (x : Int) + 1 by omega, show mkU α (x + 1) = mkU α x ||| 2 ^ (α 13 (lfU α x)).toNat from rfl] at g
    rw [lp_X9_emptyLeaves_4, iww_t (by omega), e1, bd1_s, e2, bd1_s, bnd_d, e3, orL_n m1 m2]
    exact g
theorem m_el_17 {σ α : St} {l z : Int} (kx : Int → Option Int) (h : IM σ α) (hw : WF α) (hl : 0 ≤ l ∧ l ≤ 100) : ∀ (r x n : Nat), (x : Int) + r = α 0 0 → r < n → lp_X10_emptyLeaves_17 σ z l kx n (ihU α l x) x = kx (ihU α l (x + r)) := by
  intro r
  have w3 := hw.1.2.1
  have w4 := hw.2.2.2.2.2.1.2
  have hs := h.1.1
  induction r with
  | zero =>
    intro x n h1 hn
    obtain ⟨n, rfl⟩ : ∃ k, n = k + 1 := ⟨n - 1, by omega⟩
    rw [lp_X10_emptyLeaves_17, iww_f (by omega)]; rfl
  | succ r ih =>
    intro x n h1 hn
    obtain ⟨n, rfl⟩ : ∃ k, n = k + 1 := ⟨n - 1, by omega⟩
    have g := ih (x + 1) n (by omega) (by omega)
    have q := lfn_r (u := (x : Int)) hw.2.2.2.2
    have e1 := m_lfU (JM_of h) hw (u := (x : Int)) (by omega) (by omega)
    rw [show x + 1 + r = x + (r + 1) by omega, show ((x + 1 : Nat) : Int) = (x : Int) + 1 by omega, show ihU α l (x + 1) = (if ihU α l x = 0 then (if α 13 (lfU α x) = l then 1 else 0) else 1) from rfl] at g
    rcases ihU_t hw.2.2.2.2 hl.1 x with ⟨i1, _⟩ | ⟨i1, _⟩
    · rw [i1, if_neg (by omega)] at g
      rw [lp_X10_emptyLeaves_17, iww_t (by omega), i1, ewl_f (by omega)]
      exact g
    · rw [i1, if_pos rfl] at g
      rw [lp_X10_emptyLeaves_17, iww_t (by omega), i1, ewl_t (by omega), e1, bd1_s, bnd_d, wI_id (x := α 13 (lfU α x)) (by omega) (by omega), wI_id (x := l) (by omega) (by omega)]
      exact g
theorem m_el_4 {σ α : St} (kx : Int → Option Int) (h : IM σ α) (hw : WF α) : ∀ (r x n : Nat), (x : Int) + r = α 0 8 → r < n → lp_X10_emptyLeaves_4 σ kx n (emG α x) x = kx (emG α (x + r)) := by
  intro r
  have w3 := hw.1.2.1
  have w5 := hw.1.1
  have w4 := hw.2.2.2.2.2.1.2
  have hs := h.2.2.2.2.1
  induction r with
  | zero =>
    intro x n h1 hn
    obtain ⟨n, rfl⟩ : ∃ k, n = k + 1 := ⟨n - 1, by omega⟩
    rw [lp_X10_emptyLeaves_4, iww_f (by omega)]; rfl
  | succ r ih =>
    intro x n h1 hn
    obtain ⟨n, rfl⟩ : ∃ k, n = k + 1 := ⟨n - 1, by omega⟩
    have g := ih (x + 1) n (by omega) (by omega)
    have e := m_el_17 (l := (x : Int)) (z := emG α x) (fun y8 => bnd (emG α x + (if wI y8 = 0 then 1 else 0)) fun v10 => lp_X10_emptyLeaves_4 σ kx n v10 ((x : Int) + 1)) h hw (by omega) (α 0 0).toNat 0 1000 (by omega) (by omega)
    rw [show (((0 : Nat)) : Int) = 0 from rfl, show ihU α (x : Int) 0 = 0 from rfl, Nat.zero_add] at e
    rw [show x + 1 + r = x + (r + 1) by omega, show ((x + 1 : Nat) : Int) = (x : Int) + 1 by omega, show emG α (x + 1) = emG α x + (if ihU α x (α 0 0).toNat = 0 then 1 else 0) from rfl] at g
    rw [lp_X10_emptyLeaves_4, iww_t (by omega), e, bnd_d]
    rcases ihU_t (l := (x : Int)) hw.2.2.2.2 (by omega) (α 0 0).toNat with ⟨i1, _⟩ | ⟨i1, _⟩
    · rw [i1] at g ⊢
      rw [if_neg (show ¬ (1 : Int) = 0 by omega)] at g
      rw [ewl_f (by omega)]
      exact g
    · rw [i1] at g ⊢
      rw [if_pos rfl] at g
      rw [ewl_t (by omega)]
      exact g
def rTre (α : St) (a : Int) : Int := if a = 0 then α 0 8 else if a = 1 then α 0 9 else if a = 2 then emG α (α 0 8).toNat else -2
def aTre (α : St) (a : Int) : St := if 0 ≤ a ∧ a ≤ 2 then α else aR α 3
theorem wf_tree {α : St} {a : Int} (hw : WF α) : WF (aTre α a) := by
  unfold aTre
  by_cases c : 0 ≤ a ∧ a ≤ 2
  · rw [if_pos c]; exact hw
  · rw [if_neg c]; exact WF_aR 3 (by omega) hw
theorem xc_tree {σ α : St} {a : Int} (h : IC σ α) (hw : WF α) (ha : inR a) : oC (f_X9_tree σ a) σ α (rTre α a) (aTre α a) := by
  unfold inR at ha
  have w5 := hw.1.1
  have w3 := hw.1.2.1
  have t1 : σ 14 7 = α 0 8 := h.2.2.2.2.2.1
  have t2 : σ 14 8 = α 0 9 := h.2.2.2.2.2.2.1
  unfold f_X9_tree rTre aTre
  by_cases c : 0 ≤ a ∧ a ≤ 2
  · rw [if_pos c]
    have : a = 0 ∨ a = 1 ∨ a = 2 := by omega
    rcases this with rfl | rfl | rfl
    · simp (disch := omega) only [↓rdA_t, ↓wrA_t, ↓ixA_t, ↓wrF_d, ↓bd2_s, ↓bd1_s, ↓bnd_d, ↓iww_t, ↓iww_f, ↓iwl_t, ↓iwl_f, ↓ilw_t, ↓ilw_f, ↓eww_t, ↓eww_f, ↓ewl_t, ↓ewl_f, ↓ez_t, ↓ez_f, ↓il_t, ↓il_f, il_t, il_f, ez_t, ez_f, if_true, if_false, upS_h, upS_o, upS_i, Int.reduceAdd, Int.reduceSub, Int.reduceMul, Int.reduceNeg, wI_id, t1]
      exact ⟨σ, rfl, h, fun _ _ => rfl⟩
    · simp (disch := omega) only [↓rdA_t, ↓wrA_t, ↓ixA_t, ↓wrF_d, ↓bd2_s, ↓bd1_s, ↓bnd_d, ↓iww_t, ↓iww_f, ↓iwl_t, ↓iwl_f, ↓ilw_t, ↓ilw_f, ↓eww_t, ↓eww_f, ↓ewl_t, ↓ewl_f, ↓ez_t, ↓ez_f, ↓il_t, ↓il_f, il_t, il_f, ez_t, ez_f, if_true, if_false, upS_h, upS_o, upS_i, Int.reduceAdd, Int.reduceSub, Int.reduceMul, Int.reduceNeg, wI_id, t2]
      exact ⟨σ, rfl, h, fun _ _ => rfl⟩
    · have e := c_el (fun y5 => some ((σ 14 7) - (f_J13_bitCount_95d88 y5))) h hw (α 0 0).toNat 0 1000 (by omega) (by omega)
      rw [show (((0 : Nat)) : Int) = 0 from rfl, show mkU α 0 = 0 from rfl, show (((0 : Nat)) : Int) = 0 from rfl, Nat.zero_add, pop_n (mkU_24 hw.2.2.2.2 _), t1, ← em_fin hw.2.2.2.2] at e
      unfold f_X9_emptyLeaves
      rw [ewl_f (by omega), ewl_f (by omega), ewl_t (by omega), t1, e, bd1_s, if_neg (by omega), if_neg (by omega), if_pos rfl]
      exact ⟨σ, rfl, h, fun _ _ => rfl⟩
  · rw [if_neg c]
    simp (disch := omega) only [↓rdA_t, ↓wrA_t, ↓ixA_t, ↓wrF_d, ↓bd2_s, ↓bd1_s, ↓bnd_d, ↓iww_t, ↓iww_f, ↓iwl_t, ↓iwl_f, ↓ilw_t, ↓ilw_f, ↓eww_t, ↓eww_f, ↓ewl_t, ↓ewl_f, ↓ez_t, ↓ez_f, ↓il_t, ↓il_f, il_t, il_f, ez_t, ez_f, if_true, if_false, upS_h, upS_o, upS_i, Int.reduceAdd, Int.reduceSub, Int.reduceMul, Int.reduceNeg, wI_id]
    exact oC_id (oC_bad h)
theorem xm_tree {σ α : St} {a : Int} (h : IM σ α) (hw : WF α) (ha : inR a) : oM (f_X10_tree σ a) σ α (rTre α a) (aTre α a) := by
  unfold inR at ha
  have w5 := hw.2.2.2.2.2.1
  have t1 : σ 118 10 = α 0 8 := h.2.2.2.2.1
  have t2 : σ 118 11 = α 0 9 := h.2.2.2.2.2.1
  unfold f_X10_tree rTre aTre
  by_cases c : 0 ≤ a ∧ a ≤ 2
  · rw [if_pos c]
    have : a = 0 ∨ a = 1 ∨ a = 2 := by omega
    rcases this with rfl | rfl | rfl
    · simp (disch := omega) only [↓rdA_t, ↓wrA_t, ↓ixA_t, ↓wrF_d, ↓bd2_s, ↓bd1_s, ↓bnd_d, ↓iww_t, ↓iww_f, ↓iwl_t, ↓iwl_f, ↓ilw_t, ↓ilw_f, ↓eww_t, ↓eww_f, ↓ewl_t, ↓ewl_f, ↓ez_t, ↓ez_f, ↓il_t, ↓il_f, il_t, il_f, ez_t, ez_f, if_true, if_false, upS_h, upS_o, upS_i, Int.reduceAdd, Int.reduceSub, Int.reduceMul, Int.reduceNeg, wI_id, in_t, t1]
      exact ⟨σ, rfl, h, fun _ _ => rfl⟩
    · simp (disch := omega) only [↓rdA_t, ↓wrA_t, ↓ixA_t, ↓wrF_d, ↓bd2_s, ↓bd1_s, ↓bnd_d, ↓iww_t, ↓iww_f, ↓iwl_t, ↓iwl_f, ↓ilw_t, ↓ilw_f, ↓eww_t, ↓eww_f, ↓ewl_t, ↓ewl_f, ↓ez_t, ↓ez_f, ↓il_t, ↓il_f, il_t, il_f, ez_t, ez_f, if_true, if_false, upS_h, upS_o, upS_i, Int.reduceAdd, Int.reduceSub, Int.reduceMul, Int.reduceNeg, wI_id, in_t, t2]
      exact ⟨σ, rfl, h, fun _ _ => rfl⟩
    · have e := m_el_4 (fun y12 => some y12) h hw (α 0 8).toNat 0 1000 (by omega) (by omega)
      rw [show (((0 : Nat)) : Int) = 0 from rfl, show emG α 0 = 0 from rfl, Nat.zero_add] at e
      unfold f_X10_emptyLeaves
      rw [in_t (by omega), if_neg (by omega), ewl_f (by omega), ewl_f (by omega), e, bd1_s, if_neg (by omega), if_neg (by omega), if_pos rfl]
      exact ⟨σ, rfl, h, fun _ _ => rfl⟩
  · rw [if_neg c]
    simp (disch := omega) only [↓rdA_t, ↓wrA_t, ↓ixA_t, ↓wrF_d, ↓bd2_s, ↓bd1_s, ↓bnd_d, ↓iww_t, ↓iww_f, ↓iwl_t, ↓iwl_f, ↓ilw_t, ↓ilw_f, ↓eww_t, ↓eww_f, ↓ewl_t, ↓ewl_f, ↓ez_t, ↓ez_f, ↓il_t, ↓il_f, il_t, il_f, ez_t, ez_f, if_true, if_false, upS_h, upS_o, upS_i, Int.reduceAdd, Int.reduceSub, Int.reduceMul, Int.reduceNeg, wI_id, in_f]
    exact oM_id (oM_bad (-2) h)
end
section
/-! ===== the text: blanks, bytes ===== -/
theorem upS_s {σ : St} {o i x : Int} (h : σ o i = x) : upS σ o i x = σ := by
  funext a b
  unfold upS
  by_cases c : a = o ∧ b = i
  · rw [if_pos c, c.1, c.2, h]
  · rw [if_neg c]
theorem upS_u {σ : St} {o i x y : Int} : upS (upS σ o i x) o i y = upS σ o i y := by
  funext a b
  unfold upS
  by_cases c : a = o ∧ b = i
  · rw [if_pos c, if_pos c]
  · rw [if_neg c, if_neg c, if_neg c]
/-- the place behind blanks -/
def skG (α : St) : Nat → Int → Int
  | 0, p => p
  | n + 1, p => if p < α 0 6 ∧ α 11 p = 32 then skG α n (p + 1) else p
def sk (α : St) (p : Int) : Int := skG α 200 p
theorem skG_p {α : St} : ∀ (n : Nat) (p : Int), p ≤ α 0 6 → α 0 6 - p < n → p ≤ skG α n p ∧ skG α n p ≤ α 0 6 ∧ (skG α n p < α 0 6 → ¬ α 11 (skG α n p) = 32) := by
  intro n
  induction n with
  | zero => intro p h1 h2; omega
  | succ n ih =>
    intro p h1 h2
    rw [skG]
    by_cases c : p < α 0 6 ∧ α 11 p = 32
    · rw [if_pos c]
      have g := ih (p + 1) (by omega) (by omega)
      exact ⟨by omega, g.2.1, g.2.2⟩
    · rw [if_neg c]
      exact ⟨by omega, h1, fun q z => c ⟨q, z⟩⟩
theorem sk_p {α : St} {p : Int} (hw : wX α) (h0 : 0 ≤ p) (h1 : p ≤ α 0 6) : p ≤ sk α p ∧ sk α p ≤ α 0 6 ∧ (sk α p < α 0 6 → ¬ α 11 (sk α p) = 32) := skG_p 200 p h1 (by have := hw.2.1; omega)
theorem sk_i {α : St} {p : Int} (h : p < α 0 6 → ¬ α 11 p = 32) : sk α p = p := by
  unfold sk
  rw [skG, if_neg (fun z => h z.1 z.2)]
theorem sk_s {α : St} {p : Int} (hw : wX α) (h0 : 0 ≤ p) (h1 : p ≤ α 0 6) : sk α (sk α p) = sk α p := sk_i (sk_p hw h0 h1).2.2
/-- the byte there; at the end the class says -1, the reference 0 -/
def chC (α : St) (q : Int) : Int := if q < α 0 6 then α 11 q else -1
def chM (α : St) (q : Int) : Int := if q < α 0 6 then α 11 q else 0
theorem ch_p {α : St} {q : Int} (hw : wX α) (h0 : 0 ≤ q) (h1 : q ≤ α 0 6) : (q = α 0 6 ∧ chC α q = -1 ∧ chM α q = 0) ∨ (q < α 0 6 ∧ chC α q = chM α q ∧ 0 ≤ chC α q ∧ chC α q ≤ 127) := by
  unfold chC chM
  by_cases c : q < α 0 6
  · right
    have := hw.2.2 q h0 c
    rw [if_pos c, if_pos c]
    exact ⟨c, rfl, this⟩
  · left
    rw [if_neg c, if_neg c]
    exact ⟨by omega, rfl, rfl⟩
theorem c_look_g {α : St} (kx : St → Option (Int × St)) (hw : wX α) : ∀ (f : Nat) (σ : St) (p : Int) (n : Nat), cX σ α → σ 21 5 = p → 0 ≤ p → p ≤ α 0 6 → α 0 6 - p < f → f ≤ n → lp_X6_look_0 kx n σ = kx (upS σ 21 5 (skG α f p)) := by
  intro f
  have w2 := hw.2.1
  induction f with
  | zero => intro σ p n h hp h0 h1 h2 hn; omega
  | succ f ih =>
    intro σ p n h hp h0 h1 h2 hn
    obtain ⟨n, rfl⟩ : ∃ k, n = k + 1 := ⟨n - 1, by omega⟩
    have hl := h.1
    rw [lp_X6_look_0, skG]
    by_cases c : p < α 0 6
    · have hv := h.2 p h0 c
      have hr := hw.2.2 p h0 c
      rw [iww_t (by omega), rdA_t (by omega), hp, hv]
      by_cases c2 : α 11 p = 32
      · rw [ewl_t (by omega), if_pos ⟨c, c2⟩, wrF_d]
        have g := ih (upS σ 21 5 (p + 1)) (p + 1) n (cX_c (upS_i (by omega)) (upS_of (by omega)) rfl rfl h) (upS_h ⟨rfl, rfl⟩) (by omega) (by omega) (by omega) (by omega)
        rw [g, upS_u]
      · rw [ewl_f (by omega), if_neg (fun z => c2 z.2), upS_s hp]
    · rw [iww_f (by omega), if_neg (fun z => c z.1), upS_s hp]
theorem c_look {σ α : St} {p : Int} (h : cX σ α) (hw : wX α) (hp : σ 21 5 = p) (h0 : 0 ≤ p) (h1 : p ≤ α 0 6) : f_X6_look σ = some (chC α (sk α p), upS σ 21 5 (sk α p)) := by
  have w2 := hw.2.1
  have q := sk_p hw h0 h1
  have hl := h.1
  unfold f_X6_look jn_X6_look_38
  have hm : ∀ n : Nat, ∀ kx : St → Option (Int × St), 200 ≤ n → lp_X6_look_0 kx n σ = kx (upS σ 21 5 (sk α p)) := fun n kx hn => c_look_g kx hw 200 σ p n h hp h0 h1 (by omega) hn
  rw [hm 1000 _ (by omega)]
  unfold chC
  by_cases c : sk α p < α 0 6
  · have hv := h.2 (sk α p) (by omega) c
    simp (disch := omega) only [↓rdA_t, ↓wrA_t, ↓ixA_t, ↓wrF_d, ↓bd2_s, ↓bd1_s, ↓bnd_d, ↓iww_t, ↓iww_f, ↓iwl_t, ↓iwl_f, ↓ilw_t, ↓ilw_f, ↓eww_t, ↓eww_f, ↓ewl_t, ↓ewl_f, ↓ez_t, ↓ez_f, ↓il_t, ↓il_f, il_t, il_f, ez_t, ez_f, if_true, if_false, upS_h, upS_o, upS_i, Int.reduceAdd, Int.reduceSub, Int.reduceMul, Int.reduceNeg, wI_id, hv]
  · simp (disch := omega) only [↓rdA_t, ↓wrA_t, ↓ixA_t, ↓wrF_d, ↓bd2_s, ↓bd1_s, ↓bnd_d, ↓iww_t, ↓iww_f, ↓iwl_t, ↓iwl_f, ↓ilw_t, ↓ilw_f, ↓eww_t, ↓eww_f, ↓ewl_t, ↓ewl_f, ↓ez_t, ↓ez_f, ↓il_t, ↓il_f, il_t, il_f, ez_t, ez_f, if_true, if_false, upS_h, upS_o, upS_i, Int.reduceAdd, Int.reduceSub, Int.reduceMul, Int.reduceNeg, wI_id]
theorem m_here_g {α : St} (kx : St → Option (Int × St)) (hw : wX α) : ∀ (f : Nat) (σ : St) (p : Int) (n : Nat), mX σ α → σ 118 15 = p → 0 ≤ p → p ≤ α 0 6 → α 0 6 - p < f → f ≤ n → lp_X10_here_0 kx n σ = kx (upS σ 118 15 (skG α f p)) := by
  intro f
  have w2 := hw.2.1
  induction f with
  | zero => intro σ p n h hp h0 h1 h2 hn; omega
  | succ f ih =>
    intro σ p n h hp h0 h1 h2 hn
    obtain ⟨n, rfl⟩ : ∃ k, n = k + 1 := ⟨n - 1, by omega⟩
    have hl := h.1
    rw [lp_X10_here_0, skG]
    by_cases c : p < α 0 6
    · have hv := h.2 p h0 c
      have hr := hw.2.2 p h0 c
      rw [iww_t (by omega), rdA_t (by omega), hp, hv]
      by_cases c2 : α 11 p = 32
      · rw [ewl_t (by omega), if_pos ⟨c, c2⟩, wrF_d]
        have g := ih (upS σ 118 15 (p + 1)) (p + 1) n (mX_c (upS_i (by omega)) (upS_of (by omega)) rfl rfl h) (upS_h ⟨rfl, rfl⟩) (by omega) (by omega) (by omega) (by omega)
        rw [g, upS_u]
      · rw [ewl_f (by omega), if_neg (fun z => c2 z.2), upS_s hp]
    · rw [iww_f (by omega), if_neg (fun z => c z.1), upS_s hp]
theorem m_here {σ α : St} {p : Int} (h : mX σ α) (hw : wX α) (hp : σ 118 15 = p) (h0 : 0 ≤ p) (h1 : p ≤ α 0 6) : f_X10_here σ = some (chM α (sk α p), upS σ 118 15 (sk α p)) := by
  have w2 := hw.2.1
  have q := sk_p hw h0 h1
  have hl := h.1
  unfold f_X10_here jn_X10_here_38
  have hm : ∀ n : Nat, ∀ kx : St → Option (Int × St), 200 ≤ n → lp_X10_here_0 kx n σ = kx (upS σ 118 15 (sk α p)) := fun n kx hn => m_here_g kx hw 200 σ p n h hp h0 h1 (by omega) hn
  rw [hm 1000 _ (by omega)]
  unfold chM
  by_cases c : sk α p < α 0 6
  · have hv := h.2 (sk α p) (by omega) c
    simp (disch := omega) only [↓rdA_t, ↓wrA_t, ↓ixA_t, ↓wrF_d, ↓bd2_s, ↓bd1_s, ↓bnd_d, ↓iww_t, ↓iww_f, ↓iwl_t, ↓iwl_f, ↓ilw_t, ↓ilw_f, ↓eww_t, ↓eww_f, ↓ewl_t, ↓ewl_f, ↓ez_t, ↓ez_f, ↓il_t, ↓il_f, il_t, il_f, ez_t, ez_f, if_true, if_false, upS_h, upS_o, upS_i, Int.reduceAdd, Int.reduceSub, Int.reduceMul, Int.reduceNeg, wI_id, hv]
  · simp (disch := omega) only [↓rdA_t, ↓wrA_t, ↓ixA_t, ↓wrF_d, ↓bd2_s, ↓bd1_s, ↓bnd_d, ↓iww_t, ↓iww_f, ↓iwl_t, ↓iwl_f, ↓ilw_t, ↓ilw_f, ↓eww_t, ↓eww_f, ↓ewl_t, ↓ewl_f, ↓ez_t, ↓ez_f, ↓il_t, ↓il_f, il_t, il_f, ez_t, ez_f, if_true, if_false, upS_h, upS_o, upS_i, Int.reduceAdd, Int.reduceSub, Int.reduceMul, Int.reduceNeg, wI_id]
/-! figures and signs -/
theorem c_fig_t {σ α : St} {p a b : Int} (h : cX σ α) (hw : wX α) (hp : σ 21 5 = p) (h0 : 0 ≤ p) (h1 : p ≤ α 0 6) (hb : 0 ≤ a ∧ b ≤ 9) (hc : a ≤ chC α (sk α p) - 48 ∧ chC α (sk α p) - 48 ≤ b) : f_X6_readFigure σ a b = some (chC α (sk α p) - 48, upS σ 21 5 (sk α p + 1)) := by
  unfold f_X6_readFigure
  rw [c_look h hw hp h0 h1, bd2_s, bnd_d, within_t (by omega), if_neg (by omega), wrF_d, upS_u, upS_h ⟨rfl, rfl⟩]
theorem c_fig_f {σ α : St} {p a b : Int} (h : cX σ α) (hw : wX α) (hp : σ 21 5 = p) (h0 : 0 ≤ p) (h1 : p ≤ α 0 6) (hb : (0 ≤ a ∧ a ≤ 9) ∧ 0 ≤ b ∧ b ≤ 9) (hc : ¬ (a ≤ chC α (sk α p) - 48 ∧ chC α (sk α p) - 48 ≤ b)) : f_X6_readFigure σ a b = some (-1, upS (upS σ 21 5 (sk α p)) 21 6 (sk α p)) := by
  have q := sk_p hw h0 h1
  have r := ch_p hw (show 0 ≤ sk α p by omega) q.2.1
  unfold f_X6_readFigure f_X6_fail
  rw [c_look h hw hp h0 h1, bd2_s, bnd_d, within_f (by omega), if_pos rfl, wrF_d, bd2_s, upS_h ⟨rfl, rfl⟩]
theorem c_sign_t {σ α : St} {p a : Int} (h : cX σ α) (hw : wX α) (hp : σ 21 5 = p) (h0 : 0 ≤ p) (h1 : p ≤ α 0 6) (hc : chC α (sk α p) = a) : f_X6_readSign σ a = some (1, upS σ 21 5 (sk α p + 1)) := by
  unfold f_X6_readSign
  rw [c_look h hw hp h0 h1, bd2_s, eww_t hc, wrF_d, upS_u, upS_h ⟨rfl, rfl⟩]
theorem c_sign_f {σ α : St} {p a : Int} (h : cX σ α) (hw : wX α) (hp : σ 21 5 = p) (h0 : 0 ≤ p) (h1 : p ≤ α 0 6) (hb : 0 ≤ a ∧ a ≤ 127) (hc : ¬ chC α (sk α p) = a) : f_X6_readSign σ a = some (0, upS (upS σ 21 5 (sk α p)) 21 6 (sk α p)) := by
  have q := sk_p hw h0 h1
  have r := ch_p hw (show 0 ≤ sk α p by omega) q.2.1
  unfold f_X6_readSign f_X6_fail
  rw [c_look h hw hp h0 h1, bd2_s, eww_f (by omega), wrF_d, bd2_s, upS_h ⟨rfl, rfl⟩]
theorem m_takes_t {σ α : St} {p a b : Int} (h : mX σ α) (hw : wX α) (hp : σ 118 15 = p) (h0 : 0 ≤ p) (h1 : p ≤ α 0 6) (hb : (1 ≤ a ∧ a ≤ 127) ∧ 1 ≤ b ∧ b ≤ 127) (hc : a ≤ chC α (sk α p) ∧ chC α (sk α p) ≤ b) : f_X10_takes σ a b = some (chC α (sk α p) - a, upS σ 118 15 (sk α p + 1)) := by
  have q := sk_p hw h0 h1
  have r := ch_p hw (show 0 ≤ sk α p by omega) q.2.1
  have e : chM α (sk α p) = chC α (sk α p) := by omega
  unfold f_X10_takes
  rw [m_here h hw hp h0 h1, bd2_s, e, in_t3 (by omega), if_neg (by omega), wrF_d, upS_u, upS_h ⟨rfl, rfl⟩]
theorem m_takes_f {σ α : St} {p a b : Int} (h : mX σ α) (hw : wX α) (hp : σ 118 15 = p) (h0 : 0 ≤ p) (h1 : p ≤ α 0 6) (hb : (1 ≤ a ∧ a ≤ 127) ∧ 1 ≤ b ∧ b ≤ 127) (hc : ¬ (a ≤ chC α (sk α p) ∧ chC α (sk α p) ≤ b)) : f_X10_takes σ a b = some (-1, upS σ 118 15 (sk α p)) := by
  have q := sk_p hw h0 h1
  have r := ch_p hw (show 0 ≤ sk α p by omega) q.2.1
  unfold f_X10_takes
  rw [m_here h hw hp h0 h1, bd2_s, in_f3 (by omega), if_pos rfl]
/-! the end of a text -/
def enS (α : St) (p : Int) : Int := if chC α (sk α p) = 59 then (if chC α (sk α (sk α p + 1)) = -1 then -1 else sk α (sk α p + 1)) else sk α p
theorem enS_s {α : St} {p : Int} (hw : wX α) (h0 : 0 ≤ p) (h1 : p ≤ α 0 6) : enS α (sk α p) = enS α p := by
  unfold enS
  rw [sk_s hw h0 h1]
theorem enS_r {α : St} {p : Int} (hw : wX α) (h0 : 0 ≤ p) (h1 : p ≤ α 0 6) : -1 ≤ enS α p ∧ enS α p ≤ 120 := by
  have w2 := hw.2.1
  have q := sk_p hw h0 h1
  have r := ch_p hw (show 0 ≤ sk α p by omega) q.2.1
  unfold enS
  by_cases c : chC α (sk α p) = 59
  · rw [if_pos c]
    have q2 := sk_p hw (show 0 ≤ sk α p + 1 by omega) (by omega)
    by_cases c2 : chC α (sk α (sk α p + 1)) = -1
    · rw [if_pos c2]; omega
    · rw [if_neg c2]; omega
  · rw [if_neg c]; omega
theorem c_end {σ α : St} {p : Int} (h : cX σ α) (hw : wX α) (hp : σ 21 5 = p) (hf : σ 21 6 = -1) (h0 : 0 ≤ p) (h1 : p ≤ α 0 6) : ∃ τ, jn_X6_read_76 σ = some (enS α p, τ) ∧ (∀ o, ¬ o = 21 → τ o = σ o) ∧ ∀ i, ¬ i = 5 → ¬ i = 6 → τ 21 i = σ 21 i := by
  have w2 := hw.2.1
  have q := sk_p hw h0 h1
  have r := ch_p hw (show 0 ≤ sk α p by omega) q.2.1
  unfold jn_X6_read_76 f_X6_readEnd enS
  rw [ewl_t (by omega)]
  by_cases c : chC α (sk α p) = 59
  · rw [if_pos c, c_sign_t h hw hp h0 h1 c, bd2_s, if_neg (by omega)]
    have h2 : cX (upS σ 21 5 (sk α p + 1)) α := cX_c (upS_i (by omega)) (upS_of (by omega)) rfl rfl h
    have q2 := sk_p hw (show 0 ≤ sk α p + 1 by omega) (by omega)
    have r2 := ch_p hw (show 0 ≤ sk α (sk α p + 1) by omega) q2.2.1
    rw [c_look h2 hw (upS_h ⟨rfl, rfl⟩) (by omega) (by omega), bd2_s, upS_u]
    by_cases c2 : chC α (sk α (sk α p + 1)) = -1
    · rw [if_pos c2, ewl_t (by omega), bd2_s, upS_i (by omega), hf]
      exact ⟨_, rfl, fun o ho => upS_of ho, fun i i1 i2 => upS_i i1⟩
    · unfold f_X6_fail
      rw [if_neg c2, ewl_f (by omega), wrF_d, bd2_s, bd2_s, upS_h ⟨rfl, rfl⟩, upS_h ⟨rfl, rfl⟩]
      exact ⟨_, rfl, fun o ho => by rw [upS_of ho, upS_of ho], fun i i1 i2 => by rw [upS_i i2, upS_i i1]⟩
  · rw [if_neg c, c_sign_f h hw hp h0 h1 (by omega) c, bd2_s, if_pos rfl, bd2_s, upS_h ⟨rfl, rfl⟩]
    exact ⟨_, rfl, fun o ho => by rw [upS_of ho, upS_of ho], fun i i1 i2 => by rw [upS_i i2, upS_i i1]⟩
theorem c_endf {σ : St} {q : Int} (hf : σ 21 6 = q) (hq : 0 ≤ q ∧ q ≤ 200) : jn_X6_read_76 σ = some (q, σ) := by
  unfold jn_X6_read_76
  rw [ewl_f (by omega), hf]
end
section
/-! ===== the words ===== -/
def wdG (α : St) (w p : Int) : Nat → Int → Int
  | 0, _ => -1
  | r + 1, k => if p + k < α 0 6 then (if α 11 (p + k) = sChr w k then wdG α w p r (k + 1) else p) else α 0 6
theorem sChr_r {w k : Int} : 0 ≤ sChr w k ∧ sChr w k ≤ 127 := by
  unfold sChr
  repeat' split
  all_goals omega
theorem sLen_r {w : Int} : 3 ≤ sLen w ∧ sLen w ≤ 4 := by
  unfold sLen
  repeat' split
  all_goals omega
theorem let_e {w k : Int} (hw : 0 ≤ w ∧ w ≤ 1) (hk : 0 ≤ k ∧ k ≤ 4) : f_X10_letterOf w k = sChr w k := by
  unfold f_X10_letterOf sChr
  rw [wI_id (x := w) (by omega) (by omega), wI_id (x := k) (by omega) (by omega)]
theorem c_word {α : St} {w p : Int} (kx : St → Option (Int × St)) (hw : wX α) (hp : 0 ≤ p) : ∀ (r : Nat) (k : Int) (σ : St) (n : Nat), cX σ α → σ 21 5 = p + k → 0 ≤ k → k + r = sLen w → p + k ≤ α 0 6 → r < n → (wdG α w p r k = -1 ∧ p + sLen w ≤ α 0 6 ∧ lp_X6_readWord_7 w p kx n σ k = kx (upS σ 21 5 (p + sLen w))) ∨ ((0 ≤ wdG α w p r k ∧ wdG α w p r k ≤ α 0 6) ∧ lp_X6_readWord_7 w p kx n σ k = some (0, upS (upS σ 21 5 (wdG α w p r k)) 21 6 (wdG α w p r k))) := by
  intro r
  have w2 := hw.2.1
  have sl := sLen_r (w := w)
  induction r with
  | zero =>
    intro k σ n h hs h0 h1 h2 hn
    obtain ⟨n, rfl⟩ : ∃ k, n = k + 1 := ⟨n - 1, by omega⟩
    left
    have ek : k = sLen w := by omega
    refine ⟨rfl, by omega, ?_⟩
    rw [lp_X6_readWord_7, iww_f (by omega), upS_s (by rw [hs, ek])]
  | succ r ih =>
    intro k σ n h hs h0 h1 h2 hn
    obtain ⟨n, rfl⟩ : ∃ k, n = k + 1 := ⟨n - 1, by omega⟩
    have hl := h.1
    rw [lp_X6_readWord_7, wdG, iww_t (by omega)]
    by_cases c : p + k < α 0 6
    · have hv := h.2 (p + k) (by omega) c
      have hr := hw.2.2 (p + k) (by omega) c
      have sr := sChr_r (w := w) (k := k)
      rw [iww_t (by omega), rdA_t (by omega), hs, hv, if_pos (show 0 ≤ k ∧ k < sLen w by omega), if_pos c]
      by_cases c2 : α 11 (p + k) = sChr w k
      · rw [eww_t c2, if_pos c2, wrF_d]
        have g := ih (k + 1) (upS σ 21 5 (p + k + 1)) n (cX_c (upS_i (by omega)) (upS_of (by omega)) rfl rfl h) (by rw [upS_h ⟨rfl, rfl⟩]; omega) (by omega) (by omega) (by omega) (by omega)
        rw [upS_u, upS_u] at g
        exact g
      · right
        unfold f_X6_fail
        rw [eww_f (by omega), if_neg c2, wrF_d, wrF_d, bd2_s, upS_h ⟨rfl, rfl⟩]
        exact ⟨by omega, rfl⟩
    · right
      unfold f_X6_fail
      rw [iww_f (by omega), if_neg c, wrF_d, bd2_s, hs, show p + k = α 0 6 by omega]
      refine ⟨by omega, ?_⟩
      rw [upS_s (show σ 21 5 = α 0 6 by omega)]
theorem m_word {α : St} {w p : Int} (kx : St → Option (Int × St)) (hw : wX α) (hp : 0 ≤ p) (hw1 : 0 ≤ w ∧ w ≤ 1) : ∀ (r : Nat) (k : Int) (σ : St) (n : Nat), mX σ α → 0 ≤ k → k + r = sLen w → p + k ≤ α 0 6 → r < n → (wdG α w p r k = -1 ∧ lp_X10_takesWord_25 p w kx n σ k = kx σ) ∨ ((0 ≤ wdG α w p r k ∧ wdG α w p r k ≤ α 0 6) ∧ lp_X10_takesWord_25 p w kx n σ k = some (-1, upS σ 118 15 (wdG α w p r k))) := by
  intro r
  have w2 := hw.2.1
  have sl := sLen_r (w := w)
  have sl2 : sLen w = 3 + w := by
    unfold sLen
    by_cases c : w = 0
    · rw [if_pos c]; omega
    · rw [if_neg c]; omega
  induction r with
  | zero =>
    intro k σ n h h0 h1 h2 hn
    obtain ⟨n, rfl⟩ : ∃ k, n = k + 1 := ⟨n - 1, by omega⟩
    left
    refine ⟨rfl, ?_⟩
    rw [lp_X10_takesWord_25, iww_f (by omega)]
  | succ r ih =>
    intro k σ n h h0 h1 h2 hn
    obtain ⟨n, rfl⟩ : ∃ k, n = k + 1 := ⟨n - 1, by omega⟩
    have hl := h.1
    rw [lp_X10_takesWord_25, wdG, iww_t (by omega)]
    by_cases c : p + k < α 0 6
    · have hv := h.2 (p + k) (by omega) c
      have hr := hw.2.2 (p + k) (by omega) c
      have sr := sChr_r (w := w) (k := k)
      rw [iww_t (by omega), rdA_t (by omega), hv, let_e hw1 (by omega), if_pos c]
      by_cases c2 : α 11 (p + k) = sChr w k
      · rw [eww_t c2, if_pos c2]
        exact ih (k + 1) σ n h (by omega) (by omega) (by omega) (by omega)
      · right
        rw [eww_f (by omega), if_neg c2, wrF_d]
        exact ⟨by omega, rfl⟩
    · right
      rw [iww_f (by omega), if_neg c, wrF_d, hl]
      exact ⟨by omega, rfl⟩
/-- which word, and where it is at fault (-1: nowhere) -/
def wdW (α : St) : Int := if chC α (sk α 0) = 116 then 1 else 0
def wdF (α : St) : Int := wdG α (wdW α) (sk α 0) (sLen (wdW α)).toNat 0
theorem wdF_n {α : St} (hw : wX α) (h1 : ¬ chC α (sk α 0) = 114) (h2 : ¬ chC α (sk α 0) = 116) : wdF α = sk α 0 ∧ wdW α = 0 := by
  have w1 := hw.1
  have q := sk_p hw (show (0 : Int) ≤ 0 by omega) w1
  have e : wdW α = 0 := by unfold wdW; rw [if_neg h2]
  unfold wdF
  rw [e]
  refine ⟨?_, rfl⟩
  rw [show (sLen 0).toNat = 2 + 1 from rfl, wdG, Int.add_zero]
  by_cases c : sk α 0 < α 0 6
  · rw [if_pos c, if_neg]
    intro z
    apply h1
    unfold chC
    rw [if_pos c, z]
    rfl
  · rw [if_neg c]; omega
theorem m_tword {σ α : St} (h : mX σ α) (hw : wX α) (hp : σ 118 15 = 0) : (wdF α = -1 ∧ sk α 0 + 3 + wdW α ≤ α 0 6 ∧ f_X10_takesWord σ = some (wdW α, upS σ 118 15 (sk α 0 + 3 + wdW α))) ∨ ((0 ≤ wdF α ∧ wdF α ≤ α 0 6) ∧ f_X10_takesWord σ = some (-1, upS σ 118 15 (wdF α))) := by
  have w1 := hw.1
  have q := sk_p hw (show (0 : Int) ≤ 0 by omega) w1
  have rr := ch_p hw q.1 q.2.1
  have ew : (if wI (chM α (sk α 0)) = 116 then (1 : Int) else 0) = wdW α := by
    unfold wdW
    rw [wI_id (x := chM α (sk α 0)) (by omega) (by omega)]
    by_cases c : chC α (sk α 0) = 116
    · rw [if_pos c, if_pos (by omega)]
    · rw [if_neg c, if_neg (by omega)]
  have wr : 0 ≤ wdW α ∧ wdW α ≤ 1 := by
    unfold wdW
    by_cases c : chC α (sk α 0) = 116
    · rw [if_pos c]; omega
    · rw [if_neg c]; omega
  have sl := sLen_r (w := wdW α)
  have sl2 : sLen (wdW α) = 3 + wdW α := by
    unfold sLen
    by_cases c : wdW α = 0
    · rw [if_pos c]; omega
    · rw [if_neg c]; omega
  have h2 : mX (upS σ 118 15 (sk α 0)) α := mX_c (upS_i (by omega)) (upS_of (by omega)) rfl rfl h
  have h3 : cX (upS (upS (fun o i => if o = 21 then α 0 6 else α 11 i) 21 5 (sk α 0)) 21 3 (α 0 6)) α := ⟨by rw [upS_h ⟨rfl, rfl⟩], fun i i1 i2 => by rw [upS_o (by omega), upS_o (by omega)]; rfl⟩
  unfold f_X10_takesWord
  rw [m_here h hw hp (by omega) w1, bd2_s, bnd_d, ew, upS_h ⟨rfl, rfl⟩]
  have g := m_word (p := sk α 0) (fun σ11 => wrF σ11 118 15 ((sk α 0 + 3) + wdW α) fun σ12 => some (wdW α, σ12)) hw q.1 wr (sLen (wdW α)).toNat 0 (upS σ 118 15 (sk α 0)) 1000 h2 (by omega) (by omega) (by omega) (by omega)
  have gc := c_word (w := wdW α) (p := sk α 0) (fun σ11 => some (0, σ11)) hw q.1 (sLen (wdW α)).toNat 0 _ 1000 h3 (by rw [upS_i (by omega), upS_h ⟨rfl, rfl⟩]; omega) (by omega) (by omega) (by omega) (by omega)
  rcases g with ⟨g1, g2⟩ | ⟨g1, g2⟩
  · left
    refine ⟨g1, ?_, by rw [g2, wrF_d, upS_u]⟩
    rcases gc with ⟨k1, k2, _⟩ | ⟨k1, _⟩
    · omega
    · omega
  · right
    exact ⟨g1, by rw [g2, upS_u]; rfl⟩
end
section
/-! ===== a row is read ===== -/
def k1 (α : St) (p : Int) : Int := sk α (sk α p + 1)
def k2 (α : St) (p : Int) : Int := sk α (k1 α p + 1)
abbrev okL (α : St) (p : Int) : Prop := 97 ≤ chC α (sk α p) ∧ chC α (sk α p) ≤ 102
abbrev okP (α : St) (p : Int) : Prop := 48 ≤ chC α (k1 α p) ∧ chC α (k1 α p) ≤ 57
abbrev okD (α : St) (p : Int) : Prop := 49 ≤ chC α (k2 α p) ∧ chC α (k2 α p) ≤ 57
def rwU (β : St) (n s p l : Int) : St := upS (upS (upS β 7 n s) 8 n p) 9 n l
def rwS (α : St) : Nat → Int → Int → St → Int × Int × St
  | 0, n, p, β => (enS α p, n, β)
  | m + 1, n, p, β => if chC α (sk α p) = 59 ∧ 0 < n then (enS α p, n, β) else if okL α p then (if okP α p then (if okD α p then rwS α m (n + 1) (k2 α p + 1) (rwU β n (chC α (sk α p) - 97) (chC α (k1 α p) - 48) (chC α (k2 α p) - 48)) else (k2 α p, n, β)) else (k1 α p, n, β)) else (sk α p, n, β)
theorem sk_r {α : St} {p : Int} (hw : wX α) (h0 : 0 ≤ p) (h1 : p ≤ α 0 6) : (p ≤ sk α p ∧ sk α p ≤ α 0 6) ∧ (-1 ≤ chC α (sk α p) ∧ chC α (sk α p) ≤ 127) ∧ (0 ≤ chC α (sk α p) → sk α p < α 0 6) := by
  have q := sk_p hw h0 h1
  have rr := ch_p hw (show 0 ≤ sk α p by omega) q.2.1
  omega
theorem k1_r {α : St} {p : Int} (hw : wX α) (h0 : 0 ≤ p) (h1 : p ≤ α 0 6) (h2 : 0 ≤ chC α (sk α p)) : (p < k1 α p ∧ k1 α p ≤ α 0 6) ∧ (-1 ≤ chC α (k1 α p) ∧ chC α (k1 α p) ≤ 127) ∧ (0 ≤ chC α (k1 α p) → k1 α p < α 0 6) := by
  have q := sk_r hw h0 h1
  have q2 := sk_r (p := sk α p + 1) hw (by omega) (by omega)
  unfold k1
  omega
theorem k2_r {α : St} {p : Int} (hw : wX α) (h0 : 0 ≤ p) (h1 : p ≤ α 0 6) (h2 : 0 ≤ chC α (sk α p)) (h3 : 0 ≤ chC α (k1 α p)) : (k1 α p < k2 α p ∧ k2 α p ≤ α 0 6) ∧ (-1 ≤ chC α (k2 α p) ∧ chC α (k2 α p) ≤ 127) ∧ (0 ≤ chC α (k2 α p) → k2 α p < α 0 6) := by
  have q := k1_r hw h0 h1 h2
  have q2 := sk_r (p := k1 α p + 1) hw (by omega) (by omega)
  unfold k2
  omega
theorem rwS_r {α : St} (hw : wX α) : ∀ (m : Nat) (n p : Int) (β : St), 0 ≤ p → p ≤ α 0 6 → -1 ≤ (rwS α m n p β).1 ∧ (rwS α m n p β).1 ≤ 120 := by
  intro m
  have w2 := hw.2.1
  induction m with
  | zero => intro n p β h0 h1; exact enS_r hw h0 h1
  | succ m ih =>
    intro n p β h0 h1
    have q := sk_r hw h0 h1
    rw [rwS]
    by_cases c : chC α (sk α p) = 59 ∧ 0 < n
    · rw [if_pos c]; exact enS_r hw h0 h1
    · rw [if_neg c]
      by_cases c1 : okL α p
      · rw [if_pos c1]
        have r1 := k1_r hw h0 h1 (by unfold okL at c1; omega)
        by_cases c2 : okP α p
        · rw [if_pos c2]
          have r2 := k2_r hw h0 h1 (by unfold okL at c1; omega) (by unfold okP at c2; omega)
          by_cases c3 : okD α p
          · rw [if_pos c3]
            unfold okD at c3
            exact ih _ _ _ (by omega) (by omega)
          · rw [if_neg c3]
            show -1 ≤ k2 α p ∧ k2 α p ≤ 120
            omega
        · rw [if_neg c2]
          show -1 ≤ k1 α p ∧ k1 α p ≤ 120
          omega
      · rw [if_neg c1]
        show -1 ≤ sk α p ∧ sk α p ≤ 120
        omega
def wRd (n : Int) (β : St) : Prop := ∀ k, 0 ≤ k → k < n → (0 ≤ β 7 k ∧ β 7 k ≤ 5) ∧ (0 ≤ β 8 k ∧ β 8 k ≤ 9) ∧ (1 ≤ β 9 k ∧ β 9 k ≤ 9)
theorem wRd_u {n s p l : Int} {β : St} (h : wRd n β) (h1 : 0 ≤ s ∧ s ≤ 5) (h2 : 0 ≤ p ∧ p ≤ 9) (h3 : 1 ≤ l ∧ l ≤ 9) : wRd (n + 1) (rwU β n s p l) := by
  intro k k1 k2
  unfold rwU
  by_cases c : k = n
  · subst c
    simp (disch := omega) only [upS_h, upS_o, upS_i, Int.reduceAdd, Int.reduceSub, Int.reduceMul, Int.reduceNeg]
    exact ⟨h1, h2, h3⟩
  · simp (disch := omega) only [upS_h, upS_o, upS_i, Int.reduceAdd, Int.reduceSub, Int.reduceMul, Int.reduceNeg]
    exact h k k1 (by omega)
theorem rwS_w {α : St} (hw : wX α) : ∀ (m : Nat) (n p : Int) (β : St), 0 ≤ p → p ≤ α 0 6 → 0 ≤ n → n + m = 8 → wRd n β → (n ≤ (rwS α m n p β).2.1 ∧ (rwS α m n p β).2.1 ≤ 8) ∧ wRd (rwS α m n p β).2.1 (rwS α m n p β).2.2 := by
  intro m
  have w2 := hw.2.1
  induction m with
  | zero => intro n p β h0 h1 h2 h3 h4; exact ⟨⟨by show n ≤ n; omega, by show n ≤ 8; omega⟩, h4⟩
  | succ m ih =>
    intro n p β h0 h1 h2 h3 h4
    have q := sk_r hw h0 h1
    have tr : (n ≤ n ∧ n ≤ 8) ∧ wRd n β := ⟨by omega, h4⟩
    rw [rwS]
    by_cases c : chC α (sk α p) = 59 ∧ 0 < n
    · rw [if_pos c]; exact tr
    · rw [if_neg c]
      by_cases c1 : okL α p
      · rw [if_pos c1]
        have c1' := c1
        unfold okL at c1'
        have r1 := k1_r hw h0 h1 (by omega)
        by_cases c2 : okP α p
        · rw [if_pos c2]
          have c2' := c2
          unfold okP at c2'
          have r2 := k2_r hw h0 h1 (by omega) (by omega)
          by_cases c3 : okD α p
          · rw [if_pos c3]
            unfold okD at c3
            have g := ih (n + 1) (k2 α p + 1) (rwU β n (chC α (sk α p) - 97) (chC α (k1 α p) - 48) (chC α (k2 α p) - 48)) (by omega) (by omega) (by omega) (by omega) (wRd_u h4 (by omega) (by omega) (by omega))
            exact ⟨⟨by omega, g.1.2⟩, g.2⟩
          · rw [if_neg c3]; exact tr
        · rw [if_neg c2]; exact tr
      · rw [if_neg c1]; exact tr
/-! the class -/
def fR (σ τ : St) : Prop := (∀ o, (o < 21 ∨ o = 22 ∨ 26 < o) → τ o = σ o) ∧ ∀ i, ¬ i = 5 → ¬ i = 6 → τ 21 i = σ 21 i
theorem fR_t {σ τ ρ : St} (h1 : fR σ τ) (h2 : fR τ ρ) : fR σ ρ := ⟨fun o ho => (h2.1 o ho).trans (h1.1 o ho), fun i a b => (h2.2 i a b).trans (h1.2 i a b)⟩
theorem fR_X {σ τ α : St} (h : fR σ τ) (hx : cX σ α) : cX τ α := cX_c (h.2 3 (by omega) (by omega)) (h.1 22 (by omega)) rfl rfl hx
theorem fR_5 {σ : St} {x : Int} : fR σ (upS σ 21 5 x) := ⟨fun o ho => upS_of (by omega), fun i a b => upS_i a⟩
theorem fR_6 {σ : St} {x : Int} : fR σ (upS σ 21 6 x) := ⟨fun o ho => upS_of (by omega), fun i a b => upS_i b⟩
def dR (σ : St) (n : Int) (β : St) : Prop := σ 23 3 = n ∧ ∀ k, 0 ≤ k → k < n → σ 24 k = β 7 k ∧ σ 25 k = β 8 k ∧ σ 26 k = β 9 k
theorem dR_c {σ τ β : St} {n : Int} (h : ∀ o, 23 ≤ o → o ≤ 26 → τ o = σ o) (hd : dR σ n β) : dR τ n β := by
  unfold dR at *
  rw [h 23 (by omega) (by omega), h 24 (by omega) (by omega), h 25 (by omega) (by omega), h 26 (by omega) (by omega)]
  exact hd
theorem c_radd {σ β : St} {n s p l : Int} (h : dR σ n β) (h0 : 0 ≤ n) (h1 : n < 8) : ∃ τ, f_X4_add σ 23 s p l = some (0, τ) ∧ dR τ (n + 1) (rwU β n s p l) ∧ (∀ o, (o < 23 ∨ 26 < o) → τ o = σ o) := by
  have hs := h.1
  unfold f_X4_add
  rw [iwl_f (by omega), iwl_t (by omega)]
  simp (disch := omega) only [↓rdA_t, ↓wrA_t, ↓ixA_t, ↓wrF_d, ↓bd2_s, ↓bd1_s, ↓bnd_d, ↓iww_t, ↓iww_f, ↓iwl_t, ↓iwl_f, ↓ilw_t, ↓ilw_f, ↓eww_t, ↓eww_f, ↓ewl_t, ↓ewl_f, ↓ez_t, ↓ez_f, ↓il_t, ↓il_f, il_t, il_f, ez_t, ez_f, if_true, if_false, upS_h, upS_o, upS_i, Int.reduceAdd, Int.reduceSub, Int.reduceMul, Int.reduceNeg, wI_id, hs]
  refine ⟨_, rfl, ⟨?_, fun k a b => ?_⟩, fun o ho => ?_⟩
  · simp (disch := omega) only [upS_h, upS_o, upS_i, Int.reduceAdd, Int.reduceSub, Int.reduceMul, Int.reduceNeg, hs]
  · have g := h.2 k a
    unfold rwU
    by_cases c : k = n
    · subst c
      simp (disch := omega) only [upS_h, upS_o, upS_i, Int.reduceAdd, Int.reduceSub, Int.reduceMul, Int.reduceNeg]
      exact ⟨trivial, trivial, trivial⟩
    · have g := g (by omega)
      simp (disch := omega) only [upS_h, upS_o, upS_i, Int.reduceAdd, Int.reduceSub, Int.reduceMul, Int.reduceNeg]
      exact g
  · rw [upS_of (by omega), upS_of (by omega), upS_of (by omega), upS_of (by omega)]
theorem c_tget {σ α β : St} {p n s : Int} (h : cX σ α) (hw : wX α) (hp : σ 21 5 = sk α p) (hf : σ 21 6 = -1) (h0 : 0 ≤ p) (h1 : p ≤ α 0 6) (hl : okL α p) (hd : dR σ n β) (n0 : 0 ≤ n) (n1 : n < 8) : ∃ τ, f_X6_readTarget σ s = some (0, τ) ∧ fR σ τ ∧ ((¬ okP α p ∧ τ 21 6 = k1 α p) ∨ (okP α p ∧ ¬ okD α p ∧ τ 21 6 = k2 α p) ∨ (okP α p ∧ okD α p ∧ τ 21 5 = k2 α p + 1 ∧ τ 21 6 = -1 ∧ dR τ (n + 1) (rwU β n s (chC α (k1 α p) - 48) (chC α (k2 α p) - 48)))) := by
  unfold okL at hl
  have w2 := hw.2.1
  have q := sk_r hw h0 h1
  have r1 := k1_r hw h0 h1 (by omega)
  unfold f_X6_readTarget
  rw [wrF_d, hp]
  have hx : cX (upS σ 21 5 (sk α p + 1)) α := fR_X fR_5 h
  by_cases c2 : okP α p
  · have c2' := c2
    unfold okP at c2'
    have r2 := k2_r hw h0 h1 (by omega) (by omega)
    have e := c_fig_t (a := 0) (b := 9) hx hw (upS_h ⟨rfl, rfl⟩) (by omega) (by omega) (by omega) (show 0 ≤ chC α (k1 α p) - 48 ∧ chC α (k1 α p) - 48 ≤ 9 by omega)
    rw [upS_u] at e
    have hx2 : cX (upS σ 21 5 (k1 α p + 1)) α := fR_X fR_5 h
    rw [e, bd2_s]
    rw [ewl_t (by rw [upS_i (by omega)]; omega)]
    by_cases c3 : okD α p
    · have c3' := c3
      unfold okD at c3'
      have e2 := c_fig_t (a := 1) (b := 9) hx2 hw (upS_h ⟨rfl, rfl⟩) (by omega) (by omega) (by omega) (show 1 ≤ chC α (k2 α p) - 48 ∧ chC α (k2 α p) - 48 ≤ 9 by omega)
      rw [upS_u] at e2
      have e1 : sk α (sk α p + 1) = k1 α p := rfl
      have e3 : sk α (k1 α p + 1) = k2 α p := rfl
      rw [e1, e2, bd2_s, ewl_t (by rw [upS_i (by omega)]; omega), e3]
      obtain ⟨τ, g1, g2, g3⟩ := c_radd (s := s) (p := chC α (k1 α p) - 48) (l := chC α (k2 α p) - 48) (dR_c (τ := upS σ 21 5 (k2 α p + 1)) (fun o a b => upS_of (by omega)) hd) n0 n1
      rw [g1, bd2_s]
      refine ⟨τ, rfl, ⟨fun o ho => by rw [g3 o (by omega), upS_of (by omega)], fun i a b => by rw [g3 21 (by omega), upS_i a]⟩, Or.inr (Or.inr ⟨c2, c3, by rw [g3 21 (by omega), upS_h ⟨rfl, rfl⟩], by rw [g3 21 (by omega), upS_i (by omega), hf], g2⟩)⟩
    · have c3' := c3
      unfold okD at c3'
      have e2 := c_fig_f (a := 1) (b := 9) hx2 hw (upS_h ⟨rfl, rfl⟩) (by omega) (by omega) (by omega) (show ¬ (1 ≤ chC α (k2 α p) - 48 ∧ chC α (k2 α p) - 48 ≤ 9) by omega)
      rw [upS_u] at e2
      have e1 : sk α (sk α p + 1) = k1 α p := rfl
      have e3 : sk α (k1 α p + 1) = k2 α p := rfl
      rw [e1, e2, bd2_s, e3, ewl_f (by rw [upS_h ⟨rfl, rfl⟩]; omega)]
      exact ⟨_, rfl, fR_t fR_5 fR_6, Or.inr (Or.inl ⟨c2, c3, upS_h ⟨rfl, rfl⟩⟩)⟩
  · have c2' := c2
    unfold okP at c2'
    have e := c_fig_f (a := 0) (b := 9) hx hw (upS_h ⟨rfl, rfl⟩) (by omega) (by omega) (by omega) (show ¬ (0 ≤ chC α (k1 α p) - 48 ∧ chC α (k1 α p) - 48 ≤ 9) by omega)
    rw [upS_u] at e
    have e1 : sk α (sk α p + 1) = k1 α p := rfl
    rw [e, bd2_s, e1, ewl_f (by rw [upS_h ⟨rfl, rfl⟩]; omega)]
    exact ⟨_, rfl, fR_t fR_5 fR_6, Or.inl ⟨c2, upS_h ⟨rfl, rfl⟩⟩⟩
theorem c_rstop {σ : St} {x q : Int} (kx : St → Option (Int × St)) (n : Nat) (hq : σ 21 6 = q) (h0 : 0 ≤ q ∧ q ≤ 200) (hx : 0 ≤ x ∧ x ≤ 8) : lp_X6_readRow_12 kx (n + 1) σ x = kx σ := by
  rw [lp_X6_readRow_12]
  by_cases c : x < 8
  · rw [iwl_t (by omega), ewl_f (by omega)]
  · rw [iwl_f (by omega)]
theorem c_row {α : St} (hw : wX α) : ∀ (m : Nat) (n p : Int) (σ β : St) (N : Nat), cX σ α → σ 21 5 = p → σ 21 6 = -1 → 0 ≤ p → p ≤ α 0 6 → 0 ≤ n → n + m = 8 → dR σ n β → m + 1 < N → ∃ τ τ', lp_X6_readRow_12 (fun σ17 => some (0, σ17)) N σ n = some (0, τ) ∧ jn_X6_read_76 τ = some ((rwS α m n p β).1, τ') ∧ fR σ τ' ∧ ((rwS α m n p β).1 = -1 → dR τ' (rwS α m n p β).2.1 (rwS α m n p β).2.2) := by
  intro m
  have w2 := hw.2.1
  induction m with
  | zero =>
    intro n p σ β N h hp hf h0 h1 h2 h3 hd hN
    obtain ⟨N, rfl⟩ : ∃ k, N = k + 1 := ⟨N - 1, by omega⟩
    obtain ⟨τ, g1, g2, g3⟩ := c_end h hw hp hf h0 h1
    refine ⟨σ, τ, ?_, g1, ⟨fun o ho => g2 o (by omega), g3⟩, fun _ => dR_c (fun o a b => g2 o (by omega)) hd⟩
    rw [lp_X6_readRow_12, iwl_f (by omega)]
  | succ m ih =>
    intro n p σ β N h hp hf h0 h1 h2 h3 hd hN
    obtain ⟨N, rfl⟩ : ∃ k, N = k + 1 := ⟨N - 1, by omega⟩
    have q := sk_r hw h0 h1
    have hx : cX (upS σ 21 5 (sk α p)) α := fR_X fR_5 h
    rw [lp_X6_readRow_12, rwS, iwl_t (by omega), ewl_t (by omega), c_look h hw hp h0 h1, bd2_s]
    by_cases c : chC α (sk α p) = 59 ∧ 0 < n
    · rw [if_pos c, ewl_t (by omega), ilw_t (by omega)]
      obtain ⟨τ, g1, g2, g3⟩ := c_end hx hw (upS_h ⟨rfl, rfl⟩) (by rw [upS_i (by omega)]; exact hf) (by omega) q.1.2
      rw [enS_s hw h0 h1] at g1
      exact ⟨_, τ, rfl, g1, fR_t fR_5 ⟨fun o ho => g2 o (by omega), g3⟩, fun _ => dR_c (fun o a b => by rw [g2 o (by omega), upS_of (by omega)]) hd⟩
    · rw [if_neg c]
      have ej : (if wI (chC α (sk α p)) = 59 then if 0 < wI n then some (0, upS σ 21 5 (sk α p)) else jn_X6_readRow_42 (lp_X6_readRow_12 (fun σ17 => some (0, σ17)) N) (upS σ 21 5 (sk α p)) n (chC α (sk α p)) else jn_X6_readRow_42 (lp_X6_readRow_12 (fun σ17 => some (0, σ17)) N) (upS σ 21 5 (sk α p)) n (chC α (sk α p))) = jn_X6_readRow_42 (lp_X6_readRow_12 (fun σ17 => some (0, σ17)) N) (upS σ 21 5 (sk α p)) n (chC α (sk α p)) := by
        by_cases c0 : chC α (sk α p) = 59
        · rw [ewl_t (by omega), ilw_f (by omega)]
        · rw [ewl_f (by omega)]
      rw [ej]
      unfold jn_X6_readRow_42
      obtain ⟨N, rfl⟩ : ∃ k, N = k + 1 := ⟨N - 1, by omega⟩
      by_cases c1 : okL α p
      · have c1' := c1
        unfold okL at c1'
        have r1 := k1_r hw h0 h1 (by omega)
        rw [if_pos c1, within_t (by omega), if_neg (by omega)]
        obtain ⟨τ, g1, g2, g3⟩ := c_tget (s := chC α (sk α p) - 97) hx hw (upS_h ⟨rfl, rfl⟩) (by rw [upS_i (by omega)]; exact hf) h0 h1 c1 (dR_c (τ := upS σ 21 5 (sk α p)) (fun o a b => upS_of (by omega)) hd) h2 (by omega)
        rw [g1, bd2_s]
        rcases g3 with ⟨t1, t2⟩ | ⟨t1, t2, t3⟩ | ⟨t1, t2, t3, t4, t5⟩
        · rw [if_neg t1]
          exact ⟨τ, τ, c_rstop _ N t2 (by omega) (by omega), c_endf t2 (by omega), fR_t fR_5 g2, fun z => absurd z (by show ¬ k1 α p = -1; omega)⟩
        · have t1' := t1
          unfold okP at t1'
          have r2 := k2_r hw h0 h1 (by omega) (by omega)
          rw [if_pos t1, if_neg t2]
          exact ⟨τ, τ, c_rstop _ N t3 (by omega) (by omega), c_endf t3 (by omega), fR_t fR_5 g2, fun z => absurd z (by show ¬ k2 α p = -1; omega)⟩
        · have t1' := t1
          unfold okP at t1'
          have t2' := t2
          unfold okD at t2'
          have r2 := k2_r hw h0 h1 (by omega) (by omega)
          rw [if_pos t1, if_pos t2]
          obtain ⟨ρ, ρ', f1, f2, f3, f4⟩ := ih (n + 1) (k2 α p + 1) τ (rwU β n (chC α (sk α p) - 97) (chC α (k1 α p) - 48) (chC α (k2 α p) - 48)) (N + 1) (fR_X g2 hx) t3 t4 (by omega) (by omega) (by omega) (by omega) t5 (by omega)
          exact ⟨ρ, ρ', f1, f2, fR_t (fR_t fR_5 g2) f3, f4⟩
      · have c1' := c1
        unfold okL at c1'
        rw [if_neg c1, within_f (by omega), if_pos rfl]
        unfold f_X6_fail
        rw [wrF_d, bd2_s, upS_h ⟨rfl, rfl⟩]
        refine ⟨_, _, c_rstop _ N (upS_h ⟨rfl, rfl⟩) (by omega) (by omega), c_endf (upS_h ⟨rfl, rfl⟩) (by omega), fR_t fR_5 fR_6, fun z => absurd z (by show ¬ sk α p = -1; omega)⟩
end
section
/-! ===== a row is read by the reference ===== -/
def fM (σ τ : St) : Prop := (∀ o, ¬ o = 118 → ¬ o = 128 → τ o = σ o) ∧ ∀ i, ¬ i = 15 → τ 118 i = σ 118 i
theorem fM_t {σ τ ρ : St} (h1 : fM σ τ) (h2 : fM τ ρ) : fM σ ρ := ⟨fun o a b => (h2.1 o a b).trans (h1.1 o a b), fun i a => (h2.2 i a).trans (h1.2 i a)⟩
theorem fM_X {σ τ α : St} (h : fM σ τ) (hx : mX σ α) : mX τ α := mX_c (h.2 14 (by omega)) (h.1 127 (by omega) (by omega)) rfl rfl hx
theorem fM_15 {σ : St} {x : Int} : fM σ (upS σ 118 15 x) := ⟨fun o a b => upS_of a, fun i a => upS_i a⟩
def dM (σ : St) (n : Int) (β : St) : Prop := ∀ k, 0 ≤ k → k < n → σ 128 (3 * k) = β 7 k ∧ σ 128 (3 * k + 1) = β 8 k ∧ σ 128 (3 * k + 2) = β 9 k
theorem dM_c {σ τ β : St} {n : Int} (h : τ 128 = σ 128) (hd : dM σ n β) : dM τ n β := by
  unfold dM at *
  rw [h]
  exact hd
theorem dM_u {σ β : St} {n s p l : Int} (hd : dM σ n β) (hn : 0 ≤ n) : dM (upS (upS (upS σ 128 (3 * n) s) 128 (3 * n + 1) p) 128 (3 * n + 2) l) (n + 1) (rwU β n s p l) := by
  intro k a b
  unfold rwU
  by_cases c : k = n
  · subst c
    simp (disch := omega) only [upS_h, upS_o, upS_i, Int.reduceAdd, Int.reduceSub, Int.reduceMul, Int.reduceNeg]
    exact ⟨trivial, trivial, trivial⟩
  · have g := hd k a (by omega)
    simp (disch := omega) only [upS_h, upS_o, upS_i, Int.reduceAdd, Int.reduceSub, Int.reduceMul, Int.reduceNeg]
    exact g
theorem m_rbad {σ : St} {n x y : Int} (kb : St → Int → Option (Int × St)) : jn_X10_readsRow_65 kb σ n x y (-1) = some (-1, σ) := by
  unfold jn_X10_readsRow_65
  rw [iwl_t (by omega)]
theorem m_r15 {σ α β : St} {n p : Int} (kb : St → Int → Option (Int × St)) (h : mX σ α) (hw : wX α) (hp : σ 118 15 = p) (h0 : 0 ≤ p) (h1 : p ≤ α 0 6) (n0 : 0 ≤ n) (n1 : n < 8) (hd : dM σ n β) :
    (¬ okL α p ∧ jn_X10_readsRow_15 kb σ n = some (-1, upS σ 118 15 (sk α p))) ∨ (okL α p ∧ ¬ okP α p ∧ jn_X10_readsRow_15 kb σ n = some (-1, upS σ 118 15 (k1 α p))) ∨ (okL α p ∧ okP α p ∧ ¬ okD α p ∧ jn_X10_readsRow_15 kb σ n = some (-1, upS σ 118 15 (k2 α p))) ∨ (okL α p ∧ okP α p ∧ okD α p ∧ ∃ τ, jn_X10_readsRow_15 kb σ n = kb τ (n + 1) ∧ fM σ τ ∧ τ 118 15 = k2 α p + 1 ∧ dM τ (n + 1) (rwU β n (chC α (sk α p) - 97) (chC α (k1 α p) - 48) (chC α (k2 α p) - 48))) := by
  have w2 := hw.2.1
  have q := sk_r hw h0 h1
  unfold jn_X10_readsRow_15
  rw [ewl_f (by omega)]
  by_cases c1 : okL α p
  · have c1' := c1
    unfold okL at c1'
    have r1 := k1_r hw h0 h1 (by omega)
    rw [m_takes_t h hw hp h0 h1 (by omega) c1', bd2_s, iwl_f (by omega)]
    have hx : mX (upS σ 118 15 (sk α p + 1)) α := fM_X fM_15 h
    by_cases c2 : okP α p
    · have c2' := c2
      unfold okP at c2'
      have r2 := k2_r hw h0 h1 (by omega) (by omega)
      rw [m_takes_t hx hw (upS_h ⟨rfl, rfl⟩) (by omega) (by omega) (by omega) c2', bd2_s, upS_u]
      have e1 : sk α (sk α p + 1) = k1 α p := rfl
      have e3 : sk α (k1 α p + 1) = k2 α p := rfl
      have hx2 : mX (upS σ 118 15 (k1 α p + 1)) α := fM_X fM_15 h
      unfold jn_X10_readsRow_48
      rw [e1, iwl_f (by omega)]
      by_cases c3 : okD α p
      · have c3' := c3
        unfold okD at c3'
        rw [m_takes_t hx2 hw (upS_h ⟨rfl, rfl⟩) (by omega) (by omega) (by omega) c3', bd2_s, upS_u, e3]
        unfold jn_X10_readsRow_65
        rw [iwl_f (by omega), wrA_t (by omega), wrA_t (by omega), wrA_t (by omega), show chC α (k2 α p) - 49 + 1 = chC α (k2 α p) - 48 by omega]
        refine Or.inr (Or.inr (Or.inr ⟨c1, c2, c3, _, rfl, ⟨fun o a b => ?_, fun i a => ?_⟩, ?_, dM_u (dM_c (upS_of (by omega)) hd) n0⟩))
        · rw [upS_of b, upS_of b, upS_of b, upS_of a]
        · rw [upS_o (by omega), upS_o (by omega), upS_o (by omega), upS_i a]
        · rw [upS_o (by omega), upS_o (by omega), upS_o (by omega), upS_h ⟨rfl, rfl⟩]
      · have c3' := c3
        unfold okD at c3'
        rw [m_takes_f hx2 hw (upS_h ⟨rfl, rfl⟩) (by omega) (by omega) (by omega) c3', bd2_s, upS_u, e3, m_rbad]
        exact Or.inr (Or.inr (Or.inl ⟨c1, c2, c3, rfl⟩))
    · have c2' := c2
      unfold okP at c2'
      rw [m_takes_f hx hw (upS_h ⟨rfl, rfl⟩) (by omega) (by omega) (by omega) c2', bd2_s, upS_u]
      unfold jn_X10_readsRow_48
      rw [iwl_t (by omega), m_rbad]
      exact Or.inr (Or.inl ⟨c1, c2, rfl⟩)
  · have c1' := c1
    unfold okL at c1'
    rw [m_takes_f h hw hp h0 h1 (by omega) c1', bd2_s, iwl_t (by omega)]
    unfold jn_X10_readsRow_48
    rw [iwl_t (by omega), m_rbad]
    exact Or.inl ⟨c1, rfl⟩
/-- what the reference says of a row that it has read -/
def mRd (α τ : St) (v : Int) (R : Int × Int × St) : Prop := (0 ≤ τ 118 15 ∧ τ 118 15 ≤ α 0 6) ∧ ((v = -1 ∧ 0 ≤ R.1 ∧ sk α (τ 118 15) = R.1) ∨ (0 ≤ v ∧ v = R.2.1 ∧ enS α (τ 118 15) = R.1 ∧ dM τ R.2.1 R.2.2))
theorem m_rowl {α : St} (hw : wX α) : ∀ (m : Nat) (n p : Int) (σ β : St) (N : Nat), mX σ α → σ 118 15 = p → 0 ≤ p → p ≤ α 0 6 → 0 ≤ n → n + m = 8 → dM σ n β → m + 1 < N → ∃ v τ, lp_X10_readsRow_2 (fun σ18 y19 => some (y19, σ18)) N σ n = some (v, τ) ∧ fM σ τ ∧ mRd α τ v (rwS α m n p β) := by
  intro m
  have w2 := hw.2.1
  induction m with
  | zero =>
    intro n p σ β N h hp h0 h1 h2 h3 hd hN
    obtain ⟨N, rfl⟩ : ∃ k, N = k + 1 := ⟨N - 1, by omega⟩
    have q := sk_r hw h0 h1
    have rr := ch_p hw (show 0 ≤ sk α p by omega) q.1.2
    have ss := sk_s hw h0 h1
    rw [lp_X10_readsRow_2, ewl_f (by omega), m_here h hw hp h0 h1, bd2_s]
    by_cases c : chC α (sk α p) = 59
    · rw [ewl_t (by omega)]
      refine ⟨_, _, rfl, fM_15, ?_, Or.inr ⟨h2, rfl, ?_, dM_c (upS_of (by omega)) hd⟩⟩
      · rw [upS_h ⟨rfl, rfl⟩]; omega
      · rw [upS_h ⟨rfl, rfl⟩]; exact enS_s hw h0 h1
    · unfold jn_X10_readsRow_15
      rw [ewl_f (by omega), ewl_t (by omega)]
      have e : (rwS α 0 n p β).1 = sk α p := by
        show enS α p = sk α p
        unfold enS
        rw [if_neg c]
      refine ⟨_, _, rfl, fM_15, ?_, Or.inl ⟨rfl, ?_, ?_⟩⟩
      · rw [upS_h ⟨rfl, rfl⟩]; omega
      · rw [e]; omega
      · rw [upS_h ⟨rfl, rfl⟩, e, ss]
  | succ m ih =>
    intro n p σ β N h hp h0 h1 h2 h3 hd hN
    obtain ⟨N, rfl⟩ : ∃ k, N = k + 1 := ⟨N - 1, by omega⟩
    have q := sk_r hw h0 h1
    have rr := ch_p hw (show 0 ≤ sk α p by omega) q.1.2
    have ss := sk_s hw h0 h1
    -- from here on, at a place p0 with the same next byte
    have main : ∀ (ρ : St) (p0 : Int), fM σ ρ → ρ 118 15 = p0 → 0 ≤ p0 → p0 ≤ α 0 6 → sk α p0 = sk α p → dM ρ n β → ¬ (chC α (sk α p) = 59 ∧ 0 < n) → ∃ v τ, jn_X10_readsRow_15 (lp_X10_readsRow_2 (fun σ18 y19 => some (y19, σ18)) N) ρ n = some (v, τ) ∧ fM σ τ ∧ mRd α τ v (rwS α (m + 1) n p β) := by
      intro ρ p0 a1 a2 a3 a4 a5 a6 a7
      have e1 : k1 α p0 = k1 α p := by unfold k1; rw [a5]
      have e2 : k2 α p0 = k2 α p := by unfold k2; rw [e1]
      have g := m_r15 (lp_X10_readsRow_2 (fun σ18 y19 => some (y19, σ18)) N) (fM_X a1 h) hw a2 a3 a4 h2 (by omega) a6
      unfold okL okP okD at g
      rw [a5, e1, e2] at g
      rw [rwS, if_neg a7]
      rcases g with ⟨c1, g⟩ | ⟨c1, c2, g⟩ | ⟨c1, c2, c3, g⟩ | ⟨c1, c2, c3, τ, g, g2, g3, g4⟩
      · rw [if_neg (show ¬ okL α p from c1), g]
        refine ⟨_, _, rfl, fM_t a1 fM_15, ?_, Or.inl ⟨rfl, ?_, ?_⟩⟩
        · rw [upS_h ⟨rfl, rfl⟩]; omega
        · show 0 ≤ sk α p; omega
        · rw [upS_h ⟨rfl, rfl⟩]; exact ss
      · have r1 := k1_r hw h0 h1 (by omega)
        rw [if_pos (show okL α p from c1), if_neg (show ¬ okP α p from c2), g]
        refine ⟨_, _, rfl, fM_t a1 fM_15, ?_, Or.inl ⟨rfl, ?_, ?_⟩⟩
        · rw [upS_h ⟨rfl, rfl⟩]; omega
        · show 0 ≤ k1 α p; omega
        · rw [upS_h ⟨rfl, rfl⟩]; exact sk_s hw (by omega) (by omega)
      · have r1 := k1_r hw h0 h1 (by omega)
        have r2 := k2_r hw h0 h1 (by omega) (by omega)
        rw [if_pos (show okL α p from c1), if_pos (show okP α p from c2), if_neg (show ¬ okD α p from c3), g]
        refine ⟨_, _, rfl, fM_t a1 fM_15, ?_, Or.inl ⟨rfl, ?_, ?_⟩⟩
        · rw [upS_h ⟨rfl, rfl⟩]; omega
        · show 0 ≤ k2 α p; omega
        · rw [upS_h ⟨rfl, rfl⟩]; exact sk_s hw (by omega) (by omega)
      · have r1 := k1_r hw h0 h1 (by omega)
        have r2 := k2_r hw h0 h1 (by omega) (by omega)
        rw [if_pos (show okL α p from c1), if_pos (show okP α p from c2), if_pos (show okD α p from c3), g]
        obtain ⟨v, ξ, f1, f2, f3⟩ := ih (n + 1) (k2 α p + 1) τ (rwU β n (chC α (sk α p) - 97) (chC α (k1 α p) - 48) (chC α (k2 α p) - 48)) N (fM_X g2 (fM_X a1 h)) g3 (by omega) (by omega) (by omega) (by omega) g4 (by omega)
        exact ⟨v, ξ, f1, fM_t (fM_t a1 g2) f2, f3⟩
    rw [lp_X10_readsRow_2]
    by_cases c0 : n = 0
    · rw [ewl_t (by omega)]
      exact main σ p ⟨fun _ _ _ => rfl, fun _ _ => rfl⟩ hp h0 h1 rfl hd (by omega)
    · rw [ewl_f (by omega), m_here h hw hp h0 h1, bd2_s]
      by_cases c : chC α (sk α p) = 59
      · rw [ewl_t (by omega)]
        rw [rwS, if_pos (by omega)]
        refine ⟨_, _, rfl, fM_15, ?_, Or.inr ⟨h2, rfl, ?_, dM_c (upS_of (by omega)) hd⟩⟩
        · rw [upS_h ⟨rfl, rfl⟩]; omega
        · rw [upS_h ⟨rfl, rfl⟩]; exact enS_s hw h0 h1
      · rw [ewl_f (by omega)]
        exact main _ (sk α p) fM_15 (upS_h ⟨rfl, rfl⟩) (by omega) (by omega) ss (dM_c (upS_of (by omega)) hd) (by omega)
end
section
/-! ===== a tree is read: what is asked ===== -/
def qK (c : Int) : Int := if c = 76 then 1 else if c = 82 then 2 else if c = 80 then 3 else if c = 68 then 4 else 0
def qM (k : Int) : Int := if k < 3 then 54 else 57
theorem qK_r {c : Int} : (qK c = 1 ∧ c = 76) ∨ (qK c = 2 ∧ c = 82) ∨ (qK c = 3 ∧ c = 80) ∨ (qK c = 4 ∧ c = 68) ∨ (qK c = 0 ∧ ¬ c = 76 ∧ ¬ c = 82 ∧ ¬ c = 80 ∧ ¬ c = 68) := by
  unfold qK
  repeat' split
  all_goals omega
theorem qM_r {k : Int} : (qM k = 54 ∧ k < 3) ∨ (qM k = 57 ∧ ¬ k < 3) := by
  unfold qM
  split
  all_goals omega
abbrev okG (α : St) (p : Int) : Prop := 48 ≤ chC α (k1 α p) ∧ chC α (k1 α p) ≤ qM (qK (chC α (sk α p)))
def tLf (β : St) (a dp : Int) : St := upS (upS (upS (upS (upS (upS β 12 (β 0 7) 0) 13 (β 0 7) (β 0 8)) 16 (β 0 7) a) 17 (β 0 7) dp) 0 7 (β 0 7 + 1)) 0 8 (β 0 8 + 1)
def tQu (β : St) (k f a dp : Int) : St := upS (upS (upS (upS (upS (upS β 12 (β 0 7) k) 13 (β 0 7) f) 16 (β 0 7) a) 17 (β 0 7) dp) 0 7 (β 0 7 + 1)) 0 9 (if β 0 9 < dp + 1 then dp + 1 else β 0 9)
def tBr (β : St) (i y n : Int) : St := upS (upS β 14 i y) 15 i n
def nd3 (α : St) (i y z : Int) (R2 : Int × Int × St) : Int × Int × St := if R2.1 = -1 then (if chC α (sk α R2.2.1) = 41 then (-1, sk α R2.2.1 + 1, tBr R2.2.2 i y z) else (sk α R2.2.1, R2.2.1, R2.2.2)) else R2
def nd2 (α : St) (i y : Int) (F : Int → St → Int × Int × St) (R1 : Int × Int × St) : Int × Int × St := if R1.1 = -1 then nd3 α i y (R1.2.2 0 7) (F R1.2.1 R1.2.2) else R1
def ndS (α : St) : Nat → Int → Int → Int → St → Int × Int × St
  | 0, _, _, p, β => (0, p, β)
  | f + 1, a, dp, p, β =>
    if chC α (sk α p) = 42 then (-1, sk α p + 1, tLf β a dp)
    else if 0 < qK (chC α (sk α p)) ∧ dp < 7 then
      if okG α p then
        if chC α (k2 α p) = 40 then nd2 α (β 0 7) (β 0 7 + 1) (ndS α f (β 0 7) (dp + 1)) (ndS α f (β 0 7) (dp + 1) (k2 α p + 1) (tQu β (qK (chC α (sk α p))) (chC α (k1 α p) - 48) a dp))
        else (k2 α p, p, β)
      else (k1 α p, p, β)
    else (sk α p, p, β)
def wS (β : St) (lo hi H : Int) : Prop := ∀ i, lo ≤ i → i < hi → (0 ≤ β 12 i ∧ β 12 i ≤ 4) ∧ (0 ≤ β 17 i ∧ β 17 i ≤ 7) ∧ (β 12 i = 0 → 0 ≤ β 13 i ∧ β 13 i < β 0 8) ∧ (β 12 i ≠ 0 → (0 ≤ β 13 i ∧ β 13 i ≤ 9) ∧ (i < β 14 i ∧ β 14 i < H) ∧ (i < β 15 i ∧ β 15 i < H) ∧ β 14 i ≠ β 15 i ∧ β 16 (β 14 i) = i ∧ β 16 (β 15 i) = i ∧ β 17 (β 14 i) = β 17 i + 1 ∧ β 17 (β 15 i) = β 17 i + 1)
theorem wS_c {β γ : St} {lo hi H : Int} (h : wS β lo hi hi) (e : ∀ o i, 12 ≤ o → o ≤ 17 → lo ≤ i → i < hi → γ o i = β o i) (hl : β 0 8 ≤ γ 0 8) (hH : hi ≤ H) : wS γ lo hi H := by
  intro i i1 i2
  obtain ⟨b1, b2, b3, b4⟩ := h i i1 i2
  rw [e 12 i (by omega) (by omega) i1 i2, e 13 i (by omega) (by omega) i1 i2, e 14 i (by omega) (by omega) i1 i2, e 15 i (by omega) (by omega) i1 i2, e 17 i (by omega) (by omega) i1 i2]
  refine ⟨b1, b2, fun z => ?_, fun z => ?_⟩
  · have := b3 z; omega
  · obtain ⟨c1, c2, c3, c4, c5, c6, c7, c8⟩ := b4 z
    rw [e 16 (β 14 i) (by omega) (by omega) (by omega) (by omega), e 16 (β 15 i) (by omega) (by omega) (by omega) (by omega), e 17 (β 14 i) (by omega) (by omega) (by omega) (by omega), e 17 (β 15 i) (by omega) (by omega) (by omega) (by omega)]
    exact ⟨c1, by omega, by omega, c4, c5, c6, c7, c8⟩
theorem wS_j {β : St} {lo mi hi H : Int} (h1 : wS β lo mi H) (h2 : wS β mi hi H) : wS β lo hi H := by
  intro i i1 i2
  by_cases c : i < mi
  · exact h1 i i1 c
  · exact h2 i (by omega) i2
/-- what holds of a node that was read well -/
def ndQ (α : St) (a dp p : Int) (β : St) (p' : Int) (γ : St) : Prop := (p < p' ∧ p' ≤ α 0 6) ∧ (β 0 7 < γ 0 7 ∧ γ 0 7 - β 0 7 ≤ p' - p) ∧ (β 0 8 < γ 0 8 ∧ 5 * (γ 0 8 - β 0 8) - 4 ≤ p' - p) ∧ (β 0 9 ≤ γ 0 9 ∧ γ 0 9 ≤ 7) ∧ (∀ o i, ¬ o = 0 → i < β 0 7 → γ o i = β o i) ∧ (∀ o, ¬ o = 0 → (o < 12 ∨ 17 < o) → γ o = β o) ∧ (∀ i, (i < 7 ∨ 9 < i) → γ 0 i = β 0 i) ∧ wS γ (β 0 7) (γ 0 7) (γ 0 7) ∧ γ 16 (β 0 7) = a ∧ γ 17 (β 0 7) = dp
def ndP (α : St) (a dp p : Int) (β : St) (R : Int × Int × St) : Prop := (¬ R.1 = -1 → 0 ≤ R.1 ∧ R.1 ≤ α 0 6) ∧ (R.1 = -1 → ndQ α a dp p β R.2.1 R.2.2)
theorem ndQ_leaf {α β : St} {a dp p p' : Int} (h1 : p < p' ∧ p' ≤ α 0 6) (hb : 0 ≤ β 0 7 ∧ 0 ≤ β 0 8 ∧ 0 ≤ β 0 9 ∧ β 0 9 ≤ 7) (hd : 0 ≤ dp ∧ dp ≤ 7) : ndQ α a dp p β p' (tLf β a dp) := by
  have e7 : tLf β a dp 0 7 = β 0 7 + 1 := by unfold tLf; simp (disch := omega) only [upS_h, upS_o, upS_i, Int.reduceAdd, Int.reduceSub, Int.reduceMul, Int.reduceNeg]
  have e8 : tLf β a dp 0 8 = β 0 8 + 1 := by unfold tLf; simp (disch := omega) only [upS_h, upS_o, upS_i, Int.reduceAdd, Int.reduceSub, Int.reduceMul, Int.reduceNeg]
  have e9 : tLf β a dp 0 9 = β 0 9 := by unfold tLf; simp (disch := omega) only [upS_h, upS_o, upS_i, Int.reduceAdd, Int.reduceSub, Int.reduceMul, Int.reduceNeg]
  have e12 : tLf β a dp 12 (β 0 7) = 0 := by unfold tLf; simp (disch := omega) only [upS_h, upS_o, upS_i, Int.reduceAdd, Int.reduceSub, Int.reduceMul, Int.reduceNeg]
  have e13 : tLf β a dp 13 (β 0 7) = β 0 8 := by unfold tLf; simp (disch := omega) only [upS_h, upS_o, upS_i, Int.reduceAdd, Int.reduceSub, Int.reduceMul, Int.reduceNeg]
  have e16 : tLf β a dp 16 (β 0 7) = a := by unfold tLf; simp (disch := omega) only [upS_h, upS_o, upS_i, Int.reduceAdd, Int.reduceSub, Int.reduceMul, Int.reduceNeg]
  have e17 : tLf β a dp 17 (β 0 7) = dp := by unfold tLf; simp (disch := omega) only [upS_h, upS_o, upS_i, Int.reduceAdd, Int.reduceSub, Int.reduceMul, Int.reduceNeg]
  refine ⟨h1, by omega, by omega, by omega, fun o i o1 i1 => ?_, fun o o1 o2 => ?_, fun i i1 => ?_, fun i i1 i2 => ?_, e16, e17⟩
  · unfold tLf
    rw [upS_o o1, upS_o o1, upS_i (by omega), upS_i (by omega), upS_i (by omega), upS_i (by omega)]
  · unfold tLf
    rw [upS_of o1, upS_of o1, upS_of (by omega), upS_of (by omega), upS_of (by omega), upS_of (by omega)]
  · unfold tLf
    rw [upS_i (by omega), upS_i (by omega), upS_o (by omega), upS_o (by omega), upS_o (by omega), upS_o (by omega)]
  · have ei : i = β 0 7 := by omega
    subst ei
    rw [e12, e17, e13, e8]
    exact ⟨by omega, by omega, fun _ => by omega, fun z => absurd rfl z⟩
theorem ndP_q {α β γ : St} {a dp p p2 k fg N : Int} {R1 : Int × Int × St} (F : Int → St → Int × Int × St) (hw : wX α) (hN : N = β 0 7) (hγ : γ = tQu β k fg a dp) (h0 : 0 ≤ p) (hp : p + 3 ≤ p2) (hp2 : p2 ≤ α 0 6) (hk : 1 ≤ k ∧ k ≤ 4) (hf : 0 ≤ fg ∧ fg ≤ 9) (hb : 0 ≤ β 0 7 ∧ 0 ≤ β 0 8 ∧ 0 ≤ β 0 9 ∧ β 0 9 ≤ 7) (hd : 0 ≤ dp ∧ dp < 7) (h1 : ndP α N (dp + 1) p2 γ R1) (h2 : R1.1 = -1 → ndP α N (dp + 1) R1.2.1 R1.2.2 (F R1.2.1 R1.2.2)) : ndP α a dp p β (nd2 α N (N + 1) F R1) := by
  have g7 : γ 0 7 = β 0 7 + 1 := by rw [hγ]; unfold tQu; simp (disch := omega) only [upS_h, upS_o, upS_i, Int.reduceAdd, Int.reduceSub, Int.reduceMul, Int.reduceNeg]
  have g8 : γ 0 8 = β 0 8 := by rw [hγ]; unfold tQu; simp (disch := omega) only [upS_h, upS_o, upS_i, Int.reduceAdd, Int.reduceSub, Int.reduceMul, Int.reduceNeg]
  have g9 : γ 0 9 = (if β 0 9 < dp + 1 then dp + 1 else β 0 9) := by rw [hγ]; unfold tQu; simp (disch := omega) only [upS_h, upS_o, upS_i, Int.reduceAdd, Int.reduceSub, Int.reduceMul, Int.reduceNeg]
  have g9' : β 0 9 ≤ γ 0 9 ∧ γ 0 9 ≤ 7 := by
    rw [g9]
    split
    all_goals omega
  have g12 : γ 12 N = k := by rw [hγ, hN]; unfold tQu; simp (disch := omega) only [upS_h, upS_o, upS_i, Int.reduceAdd, Int.reduceSub, Int.reduceMul, Int.reduceNeg]
  have g13 : γ 13 N = fg := by rw [hγ, hN]; unfold tQu; simp (disch := omega) only [upS_h, upS_o, upS_i, Int.reduceAdd, Int.reduceSub, Int.reduceMul, Int.reduceNeg]
  have g16 : γ 16 N = a := by rw [hγ, hN]; unfold tQu; simp (disch := omega) only [upS_h, upS_o, upS_i, Int.reduceAdd, Int.reduceSub, Int.reduceMul, Int.reduceNeg]
  have g17 : γ 17 N = dp := by rw [hγ, hN]; unfold tQu; simp (disch := omega) only [upS_h, upS_o, upS_i, Int.reduceAdd, Int.reduceSub, Int.reduceMul, Int.reduceNeg]
  have gl : ∀ o i, ¬ o = 0 → i < β 0 7 → γ o i = β o i := fun o i o1 i1 => by
    rw [hγ]; unfold tQu
    rw [upS_o o1, upS_o o1, upS_i (by omega), upS_i (by omega), upS_i (by omega), upS_i (by omega)]
  have gs : ∀ o, ¬ o = 0 → (o < 12 ∨ 17 < o) → γ o = β o := fun o o1 o2 => by
    rw [hγ]; unfold tQu
    rw [upS_of o1, upS_of o1, upS_of (by omega), upS_of (by omega), upS_of (by omega), upS_of (by omega)]
  have g0 : ∀ i, (i < 7 ∨ 9 < i) → γ 0 i = β 0 i := fun i i1 => by
    rw [hγ]; unfold tQu
    rw [upS_i (by omega), upS_i (by omega), upS_o (by omega), upS_o (by omega), upS_o (by omega), upS_o (by omega)]
  unfold nd2
  by_cases c1 : R1.1 = -1
  · rw [if_pos c1]
    obtain ⟨a1, a2, a3, a4, a5, a6, a7, a8, a9, a10⟩ := h1.2 c1
    have h2 := h2 c1
    obtain ⟨p3, hp3⟩ : ∃ x, x = R1.2.1 := ⟨_, rfl⟩
    obtain ⟨δ, hδ⟩ : ∃ x, x = R1.2.2 := ⟨_, rfl⟩
    rw [← hp3, ← hδ] at h2
    rw [← hδ] at a2 a3 a4 a5 a6 a7 a8 a9 a10
    rw [← hp3] at a1 a2 a3
    rw [← hp3, ← hδ]
    obtain ⟨R2, hR2⟩ : ∃ x, x = F p3 δ := ⟨_, rfl⟩
    rw [← hR2] at h2
    rw [← hR2]
    clear hR2 h1 hδ hp3 c1
    unfold nd3
    by_cases c2 : R2.1 = -1
    · rw [if_pos c2]
      obtain ⟨b1, b2, b3, b4, b5, b6, b7, b8, b9, b10⟩ := h2.2 c2
      obtain ⟨p4, hp4⟩ : ∃ x, x = R2.2.1 := ⟨_, rfl⟩
      obtain ⟨ε, hε⟩ : ∃ x, x = R2.2.2 := ⟨_, rfl⟩
      rw [← hp4] at b1 b2 b3
      rw [← hε] at b2 b3 b4 b5 b6 b7 b8 b9 b10
      rw [← hp4, ← hε]
      clear hp4 hε h2 c2
      have q := sk_r (p := p4) hw (by omega) (by omega)
      by_cases c3 : chC α (sk α p4) = 41
      · rw [if_pos c3]
        refine ⟨fun z => absurd rfl z, fun _ => ?_⟩
        show ndQ α a dp p β (sk α p4 + 1) (tBr ε N (N + 1) (δ 0 7))
        have z0 : ∀ i, tBr ε N (N + 1) (δ 0 7) 0 i = ε 0 i := fun i => by unfold tBr; rw [upS_o (by omega), upS_o (by omega)]
        have zn : ∀ o i, ¬ i = N → tBr ε N (N + 1) (δ 0 7) o i = ε o i := fun o i hi => by unfold tBr; rw [upS_i hi, upS_i hi]
        have z14 : tBr ε N (N + 1) (δ 0 7) 14 N = N + 1 := by unfold tBr; simp (disch := omega) only [upS_h, upS_o, upS_i, Int.reduceAdd, Int.reduceSub, Int.reduceMul, Int.reduceNeg]
        have z15 : tBr ε N (N + 1) (δ 0 7) 15 N = δ 0 7 := by unfold tBr; simp (disch := omega) only [upS_h, upS_o, upS_i, Int.reduceAdd, Int.reduceSub, Int.reduceMul, Int.reduceNeg]
        have zo : ∀ o i, ¬ o = 14 → ¬ o = 15 → tBr ε N (N + 1) (δ 0 7) o i = ε o i := fun o i h14 h15 => by unfold tBr; rw [upS_o h15, upS_o h14]
        have zof : ∀ o, ¬ o = 14 → ¬ o = 15 → tBr ε N (N + 1) (δ 0 7) o = ε o := fun o h14 h15 => funext fun i => zo o i h14 h15
        have eN : ∀ o, ¬ o = 0 → ε o N = γ o N := fun o o1 => by rw [b5 o N o1 (by omega), a5 o N o1 (by omega)]
        have eM : ∀ o, ¬ o = 0 → ε o (N + 1) = δ o (N + 1) := fun o o1 => b5 o (N + 1) o1 (by omega)
        have a9' : δ 16 (N + 1) = N := by rw [g7, ← hN] at a9; exact a9
        have a10' : δ 17 (N + 1) = dp + 1 := by rw [g7, ← hN] at a10; exact a10
        have w0 : wS (tBr ε N (N + 1) (δ 0 7)) (N + 1) (ε 0 7) (ε 0 7) := by
          refine wS_j (mi := δ 0 7) ?_ ?_
          · have a8' : wS δ (N + 1) (δ 0 7) (δ 0 7) := by rw [show N + 1 = γ 0 7 by omega]; exact a8
            refine wS_c a8' (fun o i o1 o2 i1 i2 => ?_) ?_ (by omega)
            · rw [zn o i (by omega), b5 o i (by omega) i2]
            · rw [z0]; omega
          · refine wS_c b8 (fun o i o1 o2 i1 i2 => ?_) ?_ (by omega)
            · rw [zn o i (by omega)]
            · rw [z0]; omega
        refine ⟨by omega, ?_, ?_, ?_, fun o i o1 i1 => ?_, fun o o1 o2 => ?_, fun i i1 => ?_, ?_, ?_, ?_⟩
        · rw [z0]; omega
        · rw [z0]; omega
        · rw [z0]; omega
        · rw [zn o i (by omega), b5 o i o1 (by omega), a5 o i o1 (by omega), gl o i o1 i1]
        · rw [zof o (by omega) (by omega), b6 o o1 o2, a6 o o1 o2, gs o o1 o2]
        · rw [z0, b7 i i1, a7 i i1, g0 i i1]
        · rw [z0]
          refine wS_j (mi := N + 1) (fun i i1 i2 => ?_) w0
          have ei : i = N := by omega
          subst ei
          rw [z14, z15, zo 12 _ (by omega) (by omega), zo 17 i (by omega) (by omega), zo 13 _ (by omega) (by omega), zo 16 _ (by omega) (by omega), zo 16 _ (by omega) (by omega), zo 17 _ (by omega) (by omega), zo 17 _ (by omega) (by omega), eN 12 (by omega), eN 17 (by omega), eN 13 (by omega), eM 16 (by omega), eM 17 (by omega), g12, g13, g17, a9', a10', b9, b10]
          exact ⟨by omega, by omega, fun z => by omega, fun _ => ⟨hf, by omega, by omega, by omega, rfl, rfl, rfl, rfl⟩⟩
        · rw [← hN, zo 16 _ (by omega) (by omega), eN 16 (by omega), g16]
        · rw [← hN, zo 17 _ (by omega) (by omega), eN 17 (by omega), g17]
      · rw [if_neg c3]
        exact ⟨fun _ => ⟨by show 0 ≤ sk α p4; omega, by show sk α p4 ≤ α 0 6; omega⟩, fun z => absurd z (by show ¬ sk α p4 = -1; omega)⟩
    · rw [if_neg c2]
      exact ⟨fun _ => h2.1 c2, fun z => absurd z c2⟩
  · rw [if_neg c1]
    exact ⟨fun _ => h1.1 c1, fun z => absurd z c1⟩
theorem nd_p {α : St} (hw : wX α) : ∀ (f : Nat) (a dp p : Int) (β : St), 0 ≤ dp → dp ≤ 7 → dp + f = 9 → 0 ≤ p → p ≤ α 0 6 → (0 ≤ β 0 7 ∧ 0 ≤ β 0 8 ∧ 0 ≤ β 0 9 ∧ β 0 9 ≤ 7) → ndP α a dp p β (ndS α f a dp p β) := by
  intro f
  induction f with
  | zero => intro a dp p β h0 h1 h2 h3 h4 hb; omega
  | succ f ih =>
    intro a dp p β h0 h1 h2 h3 h4 hb
    have q := sk_r hw h3 h4
    rw [ndS]
    by_cases c1 : chC α (sk α p) = 42
    · rw [if_pos c1]
      exact ⟨fun z => absurd rfl z, fun _ => ndQ_leaf (p' := sk α p + 1) (by omega) hb (by omega)⟩
    · rw [if_neg c1]
      by_cases c2 : 0 < qK (chC α (sk α p)) ∧ dp < 7
      · rw [if_pos c2]
        have kr := qK_r (c := chC α (sk α p))
        have mr := qM_r (k := qK (chC α (sk α p)))
        have r1 := k1_r hw h3 h4 (by omega)
        by_cases c3 : okG α p
        · rw [if_pos c3]
          unfold okG at c3
          have r2 := k2_r hw h3 h4 (by omega) (by omega)
          by_cases c4 : chC α (k2 α p) = 40
          · rw [if_pos c4]
            have b7 : ∀ k f : Int, tQu β k f a dp 0 7 = β 0 7 + 1 := fun k f => by unfold tQu; simp (disch := omega) only [upS_h, upS_o, upS_i, Int.reduceAdd, Int.reduceSub, Int.reduceMul, Int.reduceNeg]
            have b8 : ∀ k f : Int, tQu β k f a dp 0 8 = β 0 8 := fun k f => by unfold tQu; simp (disch := omega) only [upS_h, upS_o, upS_i, Int.reduceAdd, Int.reduceSub, Int.reduceMul, Int.reduceNeg]
            have b9 : ∀ k f : Int, tQu β k f a dp 0 9 = (if β 0 9 < dp + 1 then dp + 1 else β 0 9) := fun k f => by unfold tQu; simp (disch := omega) only [upS_h, upS_o, upS_i, Int.reduceAdd, Int.reduceSub, Int.reduceMul, Int.reduceNeg]
            have b9' : 0 ≤ (if β 0 9 < dp + 1 then dp + 1 else β 0 9) ∧ (if β 0 9 < dp + 1 then dp + 1 else β 0 9) ≤ 7 := by
              split
              all_goals omega
            have i1 := ih (β 0 7) (dp + 1) (k2 α p + 1) (tQu β (qK (chC α (sk α p))) (chC α (k1 α p) - 48) a dp) (by omega) (by omega) (by omega) (by omega) (by omega) (by rw [b7, b8, b9]; omega)
            refine ndP_q (p2 := k2 α p + 1) (k := qK (chC α (sk α p))) (fg := chC α (k1 α p) - 48) (ndS α f (β 0 7) (dp + 1)) hw rfl rfl h3 (by omega) (by omega) (by omega) (by omega) hb (by omega) i1 (fun z => ?_)
            obtain ⟨a1, a2, a3, a4, _⟩ := i1.2 z
            rw [b7] at a2
            rw [b8] at a3
            rw [b9] at a4
            exact ih _ _ _ _ (by omega) (by omega) (by omega) (by omega) (by omega) (by omega)
          · rw [if_neg c4]
            exact ⟨fun _ => ⟨by show 0 ≤ k2 α p; omega, by show k2 α p ≤ α 0 6; omega⟩, fun z => absurd z (by show ¬ k2 α p = -1; omega)⟩
        · rw [if_neg c3]
          exact ⟨fun _ => ⟨by show 0 ≤ k1 α p; omega, by show k1 α p ≤ α 0 6; omega⟩, fun z => absurd z (by show ¬ k1 α p = -1; omega)⟩
      · rw [if_neg c2]
        exact ⟨fun _ => ⟨by show 0 ≤ sk α p; omega, by show sk α p ≤ α 0 6; omega⟩, fun z => absurd z (by show ¬ sk α p = -1; omega)⟩
end
section
/-! ===== a tree is read by the class ===== -/
def fT (σ τ : St) : Prop := (∀ o, (o < 21 ∨ (21 < o ∧ o < 27) ∨ 33 < o) → τ o = σ o) ∧ ∀ i, ¬ i = 5 → ¬ i = 6 → τ 21 i = σ 21 i
theorem fT_t {σ τ ρ : St} (h1 : fT σ τ) (h2 : fT τ ρ) : fT σ ρ := ⟨fun o ho => (h2.1 o ho).trans (h1.1 o ho), fun i a b => (h2.2 i a b).trans (h1.2 i a b)⟩
theorem fT_X {σ τ α : St} (h : fT σ τ) (hx : cX σ α) : cX τ α := cX_c (h.2 3 (by omega) (by omega)) (h.1 22 (by omega)) rfl rfl hx
theorem fT_5 {σ : St} {x : Int} : fT σ (upS σ 21 5 x) := ⟨fun o ho => upS_of (by omega), fun i a b => upS_i a⟩
theorem fT_6 {σ : St} {x : Int} : fT σ (upS σ 21 6 x) := ⟨fun o ho => upS_of (by omega), fun i a b => upS_i b⟩
theorem fT_o {σ τ : St} (h : ∀ o, (o < 27 ∨ 33 < o) → τ o = σ o) : fT σ τ := ⟨fun o ho => h o (by omega), fun i a b => by rw [h 21 (by omega)]⟩
def cN (σ β : St) : Prop := σ 27 6 = β 0 7 ∧ σ 27 7 = β 0 8 ∧ σ 27 8 = β 0 9
def dTr (σ β : St) (lo hi : Int) : Prop := ∀ i, lo ≤ i → i < hi → σ 28 i = ltC (β 12 i) ∧ σ 30 i = β 16 i ∧ (β 12 i ≠ 0 → σ 29 i = β 13 i ∧ σ 31 i = β 14 i ∧ σ 32 i = β 15 i) ∧ (β 12 i = 0 → σ 33 i = β 13 i)
theorem dTr_c {σ τ β γ : St} {lo hi : Int} (h : dTr σ β lo hi) (e : ∀ o i, 28 ≤ o → o ≤ 33 → lo ≤ i → i < hi → τ o i = σ o i) (g : ∀ o i, 12 ≤ o → o ≤ 16 → lo ≤ i → i < hi → γ o i = β o i) : dTr τ γ lo hi := by
  intro i i1 i2
  rw [e 28 i (by omega) (by omega) i1 i2, e 29 i (by omega) (by omega) i1 i2, e 30 i (by omega) (by omega) i1 i2, e 31 i (by omega) (by omega) i1 i2, e 32 i (by omega) (by omega) i1 i2, e 33 i (by omega) (by omega) i1 i2, g 12 i (by omega) (by omega) i1 i2, g 13 i (by omega) (by omega) i1 i2, g 14 i (by omega) (by omega) i1 i2, g 15 i (by omega) (by omega) i1 i2, g 16 i (by omega) (by omega) i1 i2]
  exact h i i1 i2
theorem c_aNode {σ β : St} {l fg a : Int} (h : σ 27 6 = β 0 7) (h0 : 0 ≤ β 0 7) (h1 : β 0 7 < 120) : ∃ τ, f_X7_addNode σ 27 l fg a = some (β 0 7, τ) ∧ (τ 28 (β 0 7) = l ∧ τ 29 (β 0 7) = fg ∧ τ 30 (β 0 7) = a) ∧ (τ 27 6 = β 0 7 + 1 ∧ τ 27 7 = σ 27 7 ∧ τ 27 8 = σ 27 8) ∧ (∀ o, (o < 27 ∨ 33 < o) → τ o = σ o) ∧ ∀ o i, 28 ≤ o → o ≤ 33 → i < β 0 7 → τ o i = σ o i := by
  unfold f_X7_addNode
  rw [iwl_f (by omega), iwl_t (by omega), bnd_d, h]
  simp (disch := omega) only [↓rdA_t, ↓wrA_t, ↓ixA_t, ↓wrF_d, ↓bd2_s, ↓bd1_s, ↓bnd_d, ↓iww_t, ↓iww_f, ↓iwl_t, ↓iwl_f, ↓ilw_t, ↓ilw_f, ↓eww_t, ↓eww_f, ↓ewl_t, ↓ewl_f, ↓ez_t, ↓ez_f, ↓il_t, ↓il_f, il_t, il_f, ez_t, ez_f, if_true, if_false, upS_h, upS_o, upS_i, Int.reduceAdd, Int.reduceSub, Int.reduceMul, Int.reduceNeg, wI_id, h]
  refine ⟨_, rfl, ⟨?_, ?_, ?_⟩, ⟨?_, ?_, ?_⟩, fun o ho => ?_, fun o i o1 o2 hi => ?_⟩
  · simp (disch := omega) only [upS_h, upS_o, upS_i, Int.reduceAdd, Int.reduceSub, Int.reduceMul, Int.reduceNeg]
  · simp (disch := omega) only [upS_h, upS_o, upS_i, Int.reduceAdd, Int.reduceSub, Int.reduceMul, Int.reduceNeg]
  · simp (disch := omega) only [upS_h, upS_o, upS_i, Int.reduceAdd, Int.reduceSub, Int.reduceMul, Int.reduceNeg]
  · simp (disch := omega) only [upS_h, upS_o, upS_i, Int.reduceAdd, Int.reduceSub, Int.reduceMul, Int.reduceNeg, h]
  · simp (disch := omega) only [upS_h, upS_o, upS_i, Int.reduceAdd, Int.reduceSub, Int.reduceMul, Int.reduceNeg]
  · simp (disch := omega) only [upS_h, upS_o, upS_i, Int.reduceAdd, Int.reduceSub, Int.reduceMul, Int.reduceNeg]
  · rw [upS_of (by omega), upS_of (by omega), upS_of (by omega), upS_of (by omega), upS_of (by omega), upS_of (by omega), upS_of (by omega)]
  · rw [upS_o (by omega), upS_i (by omega), upS_i (by omega), upS_i (by omega), upS_i (by omega), upS_i (by omega), upS_i (by omega)]
theorem c_aLeaf {σ β : St} {a dp : Int} (h : cN σ β) (h0 : 0 ≤ β 0 7) (h1 : β 0 7 < 120) : ∃ τ, f_X7_addLeaf σ 27 a = some (β 0 7, τ) ∧ cN τ (tLf β a dp) ∧ dTr τ (tLf β a dp) (β 0 7) (β 0 7 + 1) ∧ (∀ o, (o < 27 ∨ 33 < o) → τ o = σ o) ∧ ∀ o i, 28 ≤ o → o ≤ 33 → i < β 0 7 → τ o i = σ o i := by
  obtain ⟨τ, e1, ⟨e2, e3, e4⟩, ⟨e5, e6, e7⟩, e8, e9⟩ := c_aNode (l := 42) (fg := 0) (a := a) h.1 h0 h1
  have h7 := h.2.1
  have h8 := h.2.2
  unfold f_X7_addLeaf
  rw [e1, bd2_s, ewl_f (by omega), wrA_t (by omega), wrF_d, e6, h7, upS_o (by omega), e6, h7]
  refine ⟨_, rfl, ⟨?_, ?_, ?_⟩, fun i i1 i2 => ?_, fun o ho => ?_, fun o i o1 o2 hi => ?_⟩
  · unfold tLf
    simp (disch := omega) only [upS_h, upS_o, upS_i, Int.reduceAdd, Int.reduceSub, Int.reduceMul, Int.reduceNeg, e5]
  · unfold tLf
    simp (disch := omega) only [upS_h, upS_o, upS_i, Int.reduceAdd, Int.reduceSub, Int.reduceMul, Int.reduceNeg]
  · unfold tLf
    simp (disch := omega) only [upS_h, upS_o, upS_i, Int.reduceAdd, Int.reduceSub, Int.reduceMul, Int.reduceNeg, e7, h8]
  · have ei : i = β 0 7 := by omega
    subst ei
    unfold tLf
    simp (disch := omega) only [upS_h, upS_o, upS_i, Int.reduceAdd, Int.reduceSub, Int.reduceMul, Int.reduceNeg, e2, e4]
    exact ⟨rfl, trivial, fun z => absurd rfl z, fun _ => trivial⟩
  · rw [upS_of (by omega), upS_of (by omega), e8 o ho]
  · rw [upS_o (by omega), upS_i (by omega), e9 o i o1 o2 hi]
theorem c_aQu {σ β : St} {k fg a dp : Int} (h : cN σ β) (h0 : 0 ≤ β 0 7) (h1 : β 0 7 < 120) (h9 : 0 ≤ β 0 9 ∧ β 0 9 ≤ 7) (hd : 0 ≤ dp ∧ dp ≤ 7) : ∃ τ, f_X7_addQuestion σ 27 (ltC k) fg a (dp + 1) = some (β 0 7, τ) ∧ cN τ (tQu β k fg a dp) ∧ (τ 28 (β 0 7) = ltC k ∧ τ 29 (β 0 7) = fg ∧ τ 30 (β 0 7) = a) ∧ (∀ o, (o < 27 ∨ 33 < o) → τ o = σ o) ∧ ∀ o i, 28 ≤ o → o ≤ 33 → i < β 0 7 → τ o i = σ o i := by
  have h7 := h.2.1
  have h8 := h.2.2
  obtain ⟨τ, e1, e2, ⟨e5, e6, e7⟩, e8, e9⟩ := c_aNode (σ := upS σ 27 8 (if β 0 9 < dp + 1 then dp + 1 else β 0 9)) (β := β) (l := ltC k) (fg := fg) (a := a) (by rw [upS_i (by omega)]; exact h.1) h0 h1
  unfold f_X7_addQuestion
  rw [wrF_d, h8, max_e (by omega), e1, bd2_s]
  refine ⟨τ, rfl, ⟨?_, ?_, ?_⟩, e2, fun o ho => ?_, fun o i o1 o2 hi => ?_⟩
  · unfold tQu
    simp (disch := omega) only [upS_h, upS_o, upS_i, Int.reduceAdd, Int.reduceSub, Int.reduceMul, Int.reduceNeg, e5]
  · rw [e6, upS_i (by omega), h7]
    unfold tQu
    simp (disch := omega) only [upS_h, upS_o, upS_i, Int.reduceAdd, Int.reduceSub, Int.reduceMul, Int.reduceNeg]
  · rw [e7, upS_h ⟨rfl, rfl⟩]
    unfold tQu
    simp (disch := omega) only [upS_h, upS_o, upS_i, Int.reduceAdd, Int.reduceSub, Int.reduceMul, Int.reduceNeg]
  · rw [e8 o ho, upS_of (by omega)]
  · rw [e9 o i o1 o2 hi, upS_o (by omega)]
/-- what the class does when it reads a node -/
def ndC (σ β : St) (R : Int × Int × St) (v : Int) (τ : St) : Prop := fT σ τ ∧ ((R.1 = -1 ∧ v = β 0 7 ∧ τ 21 5 = R.2.1 ∧ τ 21 6 = -1 ∧ cN τ R.2.2 ∧ dTr τ R.2.2 (β 0 7) (R.2.2 0 7) ∧ ∀ o i, 28 ≤ o → o ≤ 33 → i < β 0 7 → τ o i = σ o i) ∨ (¬ R.1 = -1 ∧ τ 21 6 = R.1))
theorem c_quest {c : Int} (hc : -1 ≤ c ∧ c ≤ 127) : (0 < qK c ∧ f_X6_isQuestion c = 1 ∧ ltC (qK c) = c ∧ (if wI c = 76 then (6 : Int) else (if wI c = 82 then 6 else 9)) = qM (qK c) - 48) ∨ (qK c = 0 ∧ f_X6_isQuestion c = 0) := by
  unfold f_X6_isQuestion
  rw [wI_id (x := c) (by omega) (by omega)]
  rcases qK_r (c := c) with ⟨h, rfl⟩ | ⟨h, rfl⟩ | ⟨h, rfl⟩ | ⟨h, rfl⟩ | ⟨h, h1, h2, h3, h4⟩
  · left; decide
  · left; decide
  · left; decide
  · left; decide
  · right
    rw [if_neg h1, if_neg h2, if_neg h3, if_neg h4]
    exact ⟨h, rfl⟩
theorem c_node {α : St} (hw : wX α) : ∀ (f : Nat) (a dp p : Int) (σ β : St), cX σ α → σ 21 5 = p → σ 21 6 = -1 → 0 ≤ dp → dp ≤ 7 → dp + f = 9 → 0 ≤ p → p ≤ α 0 6 → (0 ≤ β 0 7 ∧ 0 ≤ β 0 8 ∧ 0 ≤ β 0 9 ∧ β 0 9 ≤ 7) → β 0 7 ≤ p → cN σ β → ∃ v τ, f_X6_readNode f σ a dp = some (v, τ) ∧ ndC σ β (ndS α f a dp p β) v τ := by
  intro f
  have w2 := hw.2.1
  induction f with
  | zero => intro a dp p σ β h hp hf h0 h1 h2 h3 h4 hb hbp hc; omega
  | succ f ih =>
    intro a dp p σ β h hp hf h0 h1 h2 h3 h4 hb hbp hc
    have q := sk_r hw h3 h4
    rw [f_X6_readNode, ndS, c_look h hw hp h3 h4, bd2_s]
    by_cases c1 : chC α (sk α p) = 42
    · rw [if_pos c1, ewl_t (by omega), wrF_d, upS_u, upS_h ⟨rfl, rfl⟩]
      obtain ⟨τ, e1, e2, e3, e4, e5⟩ := c_aLeaf (σ := upS σ 21 5 (sk α p + 1)) (β := β) (a := a) (dp := dp) ⟨by rw [upS_o (by omega)]; exact hc.1, by rw [upS_o (by omega)]; exact hc.2.1, by rw [upS_o (by omega)]; exact hc.2.2⟩ hb.1 (by omega)
      rw [e1, bd2_s]
      refine ⟨_, τ, rfl, fT_t fT_5 (fT_o e4), Or.inl ⟨rfl, rfl, ?_, ?_, e2, ?_, fun o i o1 o2 hi => by rw [e5 o i o1 o2 hi, upS_o (by omega)]⟩⟩
      · rw [e4 21 (by omega), upS_h ⟨rfl, rfl⟩]
      · rw [e4 21 (by omega), upS_i (by omega), hf]
      · have e7 : tLf β a dp 0 7 = β 0 7 + 1 := by unfold tLf; simp (disch := omega) only [upS_h, upS_o, upS_i, Int.reduceAdd, Int.reduceSub, Int.reduceMul, Int.reduceNeg]
        show dTr τ (tLf β a dp) (β 0 7) (tLf β a dp 0 7)
        rw [e7]
        exact e3
    · rw [if_neg c1, ewl_f (by omega)]
      have failing : ∀ R : Int × Int × St, R.1 = sk α p → ∃ v τ, (bd2 (f_X6_fail (upS σ 21 5 (sk α p))) fun v9 σ10 => some (v9, σ10)) = some (v, τ) ∧ ndC σ β R v τ := by
        intro R hR
        unfold f_X6_fail
        rw [wrF_d, bd2_s, upS_h ⟨rfl, rfl⟩]
        exact ⟨_, _, rfl, fT_t fT_5 fT_6, Or.inr ⟨by rw [hR]; omega, by rw [hR]; exact upS_h ⟨rfl, rfl⟩⟩⟩
      rcases c_quest (c := chC α (sk α p)) (by omega) with ⟨k1', k2', k3', k4'⟩ | ⟨k1', k2'⟩
      · rw [k2', if_neg (by omega)]
        by_cases c2 : dp < 7
        · rw [if_pos (show 0 < qK (chC α (sk α p)) ∧ dp < 7 from ⟨k1', c2⟩), iwl_t (by omega), wrF_d, upS_u, upS_h ⟨rfl, rfl⟩, k4']
          have kr := qK_r (c := chC α (sk α p))
          have mr := qM_r (k := qK (chC α (sk α p)))
          have r1 := k1_r hw h3 h4 (by omega)
          have hx : cX (upS σ 21 5 (sk α p + 1)) α := fT_X fT_5 h
          have e1' : sk α (sk α p + 1) = k1 α p := rfl
          have e3' : sk α (k1 α p + 1) = k2 α p := rfl
          by_cases c3 : okG α p
          · have c3' := c3
            unfold okG at c3'
            have r2 := k2_r hw h3 h4 (by omega) (by omega)
            rw [if_pos c3, c_fig_t (a := 0) (b := qM (qK (chC α (sk α p))) - 48) hx hw (upS_h ⟨rfl, rfl⟩) (by omega) (by omega) (by omega) (by rw [e1']; omega), bd2_s, upS_u, e1', ewl_t (by rw [upS_i (by omega)]; omega)]
            obtain ⟨τ1, a1, a2, a3, a4, a5⟩ := c_aQu (σ := upS σ 21 5 (k1 α p + 1)) (β := β) (k := qK (chC α (sk α p))) (fg := chC α (k1 α p) - 48) (a := a) (dp := dp) ⟨by rw [upS_o (by omega)]; exact hc.1, by rw [upS_o (by omega)]; exact hc.2.1, by rw [upS_o (by omega)]; exact hc.2.2⟩ hb.1 (by omega) (by omega) (by omega)
            rw [k3'] at a1 a3
            rw [a1, bd2_s]
            unfold f_X6_readBranches
            have hx1 : cX τ1 α := fT_X (fT_t fT_5 (fT_o a4)) h
            have p1 : τ1 21 5 = k1 α p + 1 := by rw [a4 21 (by omega), upS_h ⟨rfl, rfl⟩]
            have f1 : τ1 21 6 = -1 := by rw [a4 21 (by omega), upS_i (by omega), hf]
            by_cases c4 : chC α (k2 α p) = 40
            · rw [if_pos c4, c_sign_t hx1 hw p1 (by omega) (by omega) c4, bd2_s, if_neg (by omega), e3']
              obtain ⟨γ, hγ⟩ : ∃ x, x = tQu β (qK (chC α (sk α p))) (chC α (k1 α p) - 48) a dp := ⟨_, rfl⟩
              rw [← hγ] at a2
              rw [← hγ]
              have b7 : γ 0 7 = β 0 7 + 1 := by rw [hγ]; unfold tQu; simp (disch := omega) only [upS_h, upS_o, upS_i, Int.reduceAdd, Int.reduceSub, Int.reduceMul, Int.reduceNeg]
              have b8 : γ 0 8 = β 0 8 := by rw [hγ]; unfold tQu; simp (disch := omega) only [upS_h, upS_o, upS_i, Int.reduceAdd, Int.reduceSub, Int.reduceMul, Int.reduceNeg]
              have b9 : γ 0 9 = (if β 0 9 < dp + 1 then dp + 1 else β 0 9) := by rw [hγ]; unfold tQu; simp (disch := omega) only [upS_h, upS_o, upS_i, Int.reduceAdd, Int.reduceSub, Int.reduceMul, Int.reduceNeg]
              have b9' : 0 ≤ γ 0 9 ∧ γ 0 9 ≤ 7 := by
                rw [b9]
                split
                all_goals omega
              have b12 : γ 12 (β 0 7) = qK (chC α (sk α p)) := by rw [hγ]; unfold tQu; simp (disch := omega) only [upS_h, upS_o, upS_i, Int.reduceAdd, Int.reduceSub, Int.reduceMul, Int.reduceNeg]
              have b13 : γ 13 (β 0 7) = chC α (k1 α p) - 48 := by rw [hγ]; unfold tQu; simp (disch := omega) only [upS_h, upS_o, upS_i, Int.reduceAdd, Int.reduceSub, Int.reduceMul, Int.reduceNeg]
              have b16 : γ 16 (β 0 7) = a := by rw [hγ]; unfold tQu; simp (disch := omega) only [upS_h, upS_o, upS_i, Int.reduceAdd, Int.reduceSub, Int.reduceMul, Int.reduceNeg]
              have P1 := nd_p hw f (β 0 7) (dp + 1) (k2 α p + 1) γ (by omega) (by omega) (by omega) (by omega) (by omega) (by omega)
              obtain ⟨v1, σ1, d1, d2, d3⟩ := ih (β 0 7) (dp + 1) (k2 α p + 1) (upS τ1 21 5 (k2 α p + 1)) γ (fT_X fT_5 hx1) (upS_h ⟨rfl, rfl⟩) (by rw [upS_i (by omega)]; exact f1) (by omega) (by omega) (by omega) (by omega) (by omega) (by omega) (by omega) ⟨by rw [upS_o (by omega)]; exact a2.1, by rw [upS_o (by omega)]; exact a2.2.1, by rw [upS_o (by omega)]; exact a2.2.2⟩
              rw [d1, bd2_s]
              obtain ⟨R1, hR1⟩ : ∃ x, x = ndS α f (β 0 7) (dp + 1) (k2 α p + 1) γ := ⟨_, rfl⟩
              rw [← hR1] at P1 d3
              rw [← hR1]
              have F1 : fT σ σ1 := fT_t (fT_t (fT_t fT_5 (fT_o a4)) fT_5) d2
              unfold nd2
              rcases d3 with ⟨g1, g2, g3, g4, g5, g6, g7⟩ | ⟨g1, g2⟩
              · rw [if_pos g1, ewl_t (by omega)]
                obtain ⟨l1, l2, l3, l4, l5, l6, l7, l8, l9, l10⟩ := P1.2 g1
                have P2 := nd_p hw f (β 0 7) (dp + 1) R1.2.1 R1.2.2 (by omega) (by omega) (by omega) (by omega) (by omega) (by omega)
                obtain ⟨v2, σ2, m1, m2, m3⟩ := ih (β 0 7) (dp + 1) R1.2.1 σ1 R1.2.2 (fT_X F1 h) g3 g4 (by omega) (by omega) (by omega) (by omega) (by omega) (by omega) (by omega) g5
                rw [m1, bd2_s]
                obtain ⟨R2, hR2⟩ : ∃ x, x = ndS α f (β 0 7) (dp + 1) R1.2.1 R1.2.2 := ⟨_, rfl⟩
                rw [← hR2] at P2 m3
                rw [← hR2]
                have F2 : fT σ σ2 := fT_t F1 m2
                unfold nd3
                rcases m3 with ⟨n1, n2, n3, n4, n5, n6, n7⟩ | ⟨n1, n2⟩
                · rw [if_pos n1, ewl_t (by omega)]
                  obtain ⟨s1, s2, s3, s4, s5, s6, s7, s8, s9, s10⟩ := P2.2 n1
                  have q2 := sk_r (p := R2.2.1) hw (by omega) (by omega)
                  by_cases c5 : chC α (sk α R2.2.1) = 41
                  · rw [if_pos c5, c_sign_t (fT_X F2 h) hw n3 (by omega) (by omega) c5, bd2_s, if_neg (by omega)]
                    unfold f_X7_putBranches f_X7_isNode
                    have en : upS σ2 21 5 (sk α R2.2.1 + 1) 27 6 = R2.2.2 0 7 := by rw [upS_o (by omega)]; exact n5.1
                    rw [iwl_f (by omega), iww_t (by rw [en]; omega), if_neg (by omega), wrA_t (by omega), wrA_t (by omega), bd2_s, bd2_s]
                    refine ⟨_, _, rfl, ?_, Or.inl ⟨rfl, rfl, ?_, ?_, ⟨?_, ?_, ?_⟩, ?_, fun o i o1 o2 hi => ?_⟩⟩
                    · exact fT_t (fT_t F2 fT_5) (fT_o (fun o ho => by rw [upS_of (by omega), upS_of (by omega)]))
                    · rw [upS_o (by omega), upS_o (by omega), upS_h ⟨rfl, rfl⟩]
                    · rw [upS_o (by omega), upS_o (by omega), upS_i (by omega), n4]
                    · rw [upS_o (by omega), upS_o (by omega), upS_o (by omega), n5.1]
                      show _ = tBr R2.2.2 (β 0 7) (β 0 7 + 1) (R1.2.2 0 7) 0 7
                      unfold tBr
                      rw [upS_o (by omega), upS_o (by omega)]
                    · rw [upS_o (by omega), upS_o (by omega), upS_o (by omega), n5.2.1]
                      show _ = tBr R2.2.2 (β 0 7) (β 0 7 + 1) (R1.2.2 0 7) 0 8
                      unfold tBr
                      rw [upS_o (by omega), upS_o (by omega)]
                    · rw [upS_o (by omega), upS_o (by omega), upS_o (by omega), n5.2.2]
                      show _ = tBr R2.2.2 (β 0 7) (β 0 7 + 1) (R1.2.2 0 7) 0 9
                      unfold tBr
                      rw [upS_o (by omega), upS_o (by omega)]
                    · have t7 : tBr R2.2.2 (β 0 7) (β 0 7 + 1) (R1.2.2 0 7) 0 7 = R2.2.2 0 7 := by unfold tBr; rw [upS_o (by omega), upS_o (by omega)]
                      show dTr _ (tBr R2.2.2 (β 0 7) (β 0 7 + 1) (R1.2.2 0 7)) (β 0 7) (tBr R2.2.2 (β 0 7) (β 0 7 + 1) (R1.2.2 0 7) 0 7)
                      rw [t7]
                      have u1 : dTr (upS (upS (upS σ2 21 5 (sk α R2.2.1 + 1)) (27 + 4) (β 0 7) v1) (27 + 5) (β 0 7) v2) (tBr R2.2.2 (β 0 7) (β 0 7 + 1) (R1.2.2 0 7)) (β 0 7 + 1) (R1.2.2 0 7) := by
                        rw [b7] at g6
                        refine dTr_c g6 (fun o i o1 o2 i1 i2 => ?_) (fun o i o1 o2 i1 i2 => ?_)
                        · rw [upS_i (by omega), upS_i (by omega), upS_o (by omega), n7 o i o1 o2 (by omega)]
                        · unfold tBr
                          rw [upS_i (by omega), upS_i (by omega), s5 o i (by omega) (by omega)]
                      have u2 : dTr (upS (upS (upS σ2 21 5 (sk α R2.2.1 + 1)) (27 + 4) (β 0 7) v1) (27 + 5) (β 0 7) v2) (tBr R2.2.2 (β 0 7) (β 0 7 + 1) (R1.2.2 0 7)) (R1.2.2 0 7) (R2.2.2 0 7) := by
                        refine dTr_c n6 (fun o i o1 o2 i1 i2 => ?_) (fun o i o1 o2 i1 i2 => ?_)
                        · rw [upS_i (by omega), upS_i (by omega), upS_o (by omega)]
                        · unfold tBr
                          rw [upS_i (by omega), upS_i (by omega)]
                      intro i i1 i2
                      by_cases d1 : i < R1.2.2 0 7
                      · by_cases d0 : i = β 0 7
                        · subst d0
                          have z12 : tBr R2.2.2 (β 0 7) (β 0 7 + 1) (R1.2.2 0 7) 12 (β 0 7) = qK (chC α (sk α p)) := by
                            unfold tBr
                            rw [upS_o (by omega), upS_o (by omega), s5 12 _ (by omega) (by omega), l5 12 _ (by omega) (by omega), b12]
                          have z13 : tBr R2.2.2 (β 0 7) (β 0 7 + 1) (R1.2.2 0 7) 13 (β 0 7) = chC α (k1 α p) - 48 := by
                            unfold tBr
                            rw [upS_o (by omega), upS_o (by omega), s5 13 _ (by omega) (by omega), l5 13 _ (by omega) (by omega), b13]
                          have z16 : tBr R2.2.2 (β 0 7) (β 0 7 + 1) (R1.2.2 0 7) 16 (β 0 7) = a := by
                            unfold tBr
                            rw [upS_o (by omega), upS_o (by omega), s5 16 _ (by omega) (by omega), l5 16 _ (by omega) (by omega), b16]
                          have z14 : tBr R2.2.2 (β 0 7) (β 0 7 + 1) (R1.2.2 0 7) 14 (β 0 7) = β 0 7 + 1 := by
                            unfold tBr
                            simp (disch := omega) only [upS_h, upS_o, upS_i, Int.reduceAdd, Int.reduceSub, Int.reduceMul, Int.reduceNeg]
                          have z15 : tBr R2.2.2 (β 0 7) (β 0 7 + 1) (R1.2.2 0 7) 15 (β 0 7) = R1.2.2 0 7 := by
                            unfold tBr
                            simp (disch := omega) only [upS_h, upS_o, upS_i, Int.reduceAdd, Int.reduceSub, Int.reduceMul, Int.reduceNeg]
                          have back : ∀ o, 28 ≤ o → o ≤ 33 → σ2 o (β 0 7) = τ1 o (β 0 7) := fun o o1 o2 => by rw [n7 o _ o1 o2 (by omega), g7 o _ o1 o2 (by omega), upS_o (by omega)]
                          rw [z12, z13, z14, z15, z16]
                          refine ⟨?_, ?_, fun _ => ⟨?_, ?_, ?_⟩, fun z => by omega⟩
                          · rw [upS_o (by omega), upS_o (by omega), upS_o (by omega), back 28 (by omega) (by omega), a3.1, k3']
                          · rw [upS_o (by omega), upS_o (by omega), upS_o (by omega), back 30 (by omega) (by omega), a3.2.2]
                          · rw [upS_o (by omega), upS_o (by omega), upS_o (by omega), back 29 (by omega) (by omega), a3.2.1]
                          · rw [upS_o (by omega), upS_h (by omega), g2, b7]
                          · rw [upS_h (by omega), n2]
                        · exact u1 i (by omega) d1
                      · exact u2 i (by omega) i2
                    · rw [upS_i (by omega), upS_i (by omega), upS_o (by omega), n7 o i o1 o2 (by omega), g7 o i o1 o2 (by omega), upS_o (by omega), a5 o i o1 o2 hi, upS_o (by omega)]
                  · rw [if_neg c5, c_sign_f (fT_X F2 h) hw n3 (by omega) (by omega) (by omega) c5, bd2_s, if_pos rfl, bd2_s]
                    exact ⟨_, _, rfl, fT_t F2 (fT_t fT_5 fT_6), Or.inr ⟨by show ¬ sk α R2.2.1 = -1; omega, upS_h ⟨rfl, rfl⟩⟩⟩
                · have := P2.1 n1
                  rw [if_neg n1, ewl_f (by omega), bd2_s]
                  exact ⟨_, _, rfl, F2, Or.inr ⟨n1, n2⟩⟩
              · have := P1.1 g1
                rw [if_neg g1, ewl_f (by omega), bd2_s]
                exact ⟨_, _, rfl, F1, Or.inr ⟨g1, g2⟩⟩
            · rw [if_neg c4, c_sign_f hx1 hw p1 (by omega) (by omega) (by omega) c4, bd2_s, if_pos rfl, bd2_s, e3']
              exact ⟨_, _, rfl, fT_t (fT_t fT_5 (fT_o a4)) (fT_t fT_5 fT_6), Or.inr ⟨by show ¬ k2 α p = -1; omega, upS_h ⟨rfl, rfl⟩⟩⟩
          · have c3' := c3
            unfold okG at c3'
            rw [if_neg c3, c_fig_f (a := 0) (b := qM (qK (chC α (sk α p))) - 48) hx hw (upS_h ⟨rfl, rfl⟩) (by omega) (by omega) (by omega) (by rw [e1']; omega), bd2_s, upS_u, e1', ewl_f (by rw [upS_h ⟨rfl, rfl⟩]; omega)]
            exact ⟨_, _, rfl, fT_t fT_5 fT_6, Or.inr ⟨by show ¬ k1 α p = -1; omega, upS_h ⟨rfl, rfl⟩⟩⟩
        · rw [iwl_f (by omega), if_neg (fun z => c2 z.2)]
          exact failing _ rfl
      · rw [k2', if_pos rfl, if_neg (by omega)]
        exact failing _ rfl
end
section
/-! ===== a tree is read by the reference ===== -/
def fO (σ τ : St) : Prop := (∀ o, (o < 118 ∨ (118 < o ∧ o < 129) ∨ 134 < o) → τ o = σ o) ∧ ∀ i, ¬ i = 15 → ¬ i = 21 → ¬ i = 22 → τ 118 i = σ 118 i
theorem fO_t {σ τ ρ : St} (h1 : fO σ τ) (h2 : fO τ ρ) : fO σ ρ := ⟨fun o ho => (h2.1 o ho).trans (h1.1 o ho), fun i a b c => (h2.2 i a b c).trans (h1.2 i a b c)⟩
theorem fO_X {σ τ α : St} (h : fO σ τ) (hx : mX σ α) : mX τ α := mX_c (h.2 14 (by omega) (by omega) (by omega)) (h.1 127 (by omega)) rfl rfl hx
theorem fO_15 {σ : St} {x : Int} : fO σ (upS σ 118 15 x) := ⟨fun o ho => upS_of (by omega), fun i a b c => upS_i a⟩
/-- what a node leaves as it was: nodes before it but for the branch on which it hangs -/
def fN (σ τ : St) (N dp a h : Int) : Prop := fO σ τ ∧ (∀ i, i < N → τ 129 i = σ 129 i ∧ τ 130 i = σ 130 i) ∧ (∀ i, i < N → ¬ (0 < dp ∧ i = a ∧ h = 0) → τ 131 i = σ 131 i) ∧ (∀ i, i < N → ¬ (0 < dp ∧ i = a ∧ h = 1) → τ 132 i = σ 132 i) ∧ (∀ i, i < dp → τ 133 i = σ 133 i) ∧ ∀ i, i < dp - 1 → τ 134 i = σ 134 i
def hg (σ : St) (N dp a h : Int) : St := if 0 < dp then upS (upS σ (131 + h) a N) 134 (dp - 1) (h + 1) else σ
def Hh (σ : St) (N dp a h : Int) : Prop := (h = 0 ∨ h = 1) ∧ (0 < dp → σ 134 (dp - 1) = h ∧ σ 133 (dp - 1) = a ∧ 0 ≤ a ∧ a < N)
theorem hg_o {σ : St} {N dp a h o : Int} (hh : h = 0 ∨ h = 1) (ho : ¬ o = 131) (h2 : ¬ o = 132) (h4 : ¬ o = 134) : hg σ N dp a h o = σ o := by
  unfold hg
  by_cases c : 0 < dp
  · rw [if_pos c, upS_of h4, upS_of (by omega)]
  · rw [if_neg c]
theorem hg_1 {σ : St} {N dp a h i : Int} (hh : h = 0 ∨ h = 1) (hi : ¬ (0 < dp ∧ i = a ∧ h = 0)) : hg σ N dp a h 131 i = σ 131 i := by
  unfold hg
  by_cases c : 0 < dp
  · rw [if_pos c, upS_o (by omega)]
    by_cases c2 : h = 0
    · rw [upS_i (by omega)]
    · rw [upS_o (by omega)]
  · rw [if_neg c]
theorem hg_2 {σ : St} {N dp a h i : Int} (hh : h = 0 ∨ h = 1) (hi : ¬ (0 < dp ∧ i = a ∧ h = 1)) : hg σ N dp a h 132 i = σ 132 i := by
  unfold hg
  by_cases c : 0 < dp
  · rw [if_pos c, upS_o (by omega)]
    by_cases c2 : h = 1
    · rw [upS_i (by omega)]
    · rw [upS_o (by omega)]
  · rw [if_neg c]
theorem hg_4 {σ : St} {N dp a h i : Int} (hh : h = 0 ∨ h = 1) (hi : i < dp - 1 ∨ dp - 1 < i ∨ ¬ 0 < dp) : hg σ N dp a h 134 i = σ 134 i := by
  unfold hg
  by_cases c : 0 < dp
  · rw [if_pos c, upS_i (by omega), upS_o (by omega)]
  · rw [if_neg c]
theorem hg_h {σ : St} {N dp a h : Int} (hh : h = 0 ∨ h = 1) (c : 0 < dp) : hg σ N dp a h (131 + h) a = N ∧ hg σ N dp a h 134 (dp - 1) = h + 1 := by
  unfold hg
  rw [if_pos c]
  exact ⟨by rw [upS_o (by omega), upS_h ⟨rfl, rfl⟩], upS_h ⟨rfl, rfl⟩⟩
theorem m_hang {σ : St} {N dp a h : Int} (hp : Hh σ N dp a h) (hd : 0 ≤ dp ∧ dp ≤ 7) (hN : N ≤ 120) : f_X10_hangs σ N dp = some (0, hg σ N dp a h) := by
  unfold f_X10_hangs hg jn_X10_hangs_46
  by_cases c : 0 < dp
  · obtain ⟨h1, h2, h3, h4⟩ := hp.2 c
    rw [if_pos c, ilw_t (by omega), rdA_t (by omega), h1]
    rcases hp.1 with rfl | rfl
    · rw [ewl_t (by omega), rdA_t (by omega), h2, wrA_t (by omega), rdA_t (by omega), wrA_t (by omega), upS_o (by omega), h1]
      rfl
    · rw [ewl_f (by omega), rdA_t (by omega), h2, wrA_t (by omega), rdA_t (by omega), wrA_t (by omega), upS_o (by omega), h1]
      rfl
  · rw [if_neg c, ilw_f (by omega)]
def dMt (τ β : St) (lo hi : Int) : Prop := ∀ i, lo ≤ i → i < hi → τ 129 i = β 12 i ∧ τ 130 i = β 13 i ∧ (β 12 i ≠ 0 → τ 131 i = β 14 i ∧ τ 132 i = β 15 i)
theorem dMt_c {σ τ β γ : St} {lo hi : Int} (h : dMt σ β lo hi) (e : ∀ o i, 129 ≤ o → o ≤ 132 → lo ≤ i → i < hi → τ o i = σ o i) (g : ∀ o i, 12 ≤ o → o ≤ 15 → lo ≤ i → i < hi → γ o i = β o i) : dMt τ γ lo hi := by
  intro i i1 i2
  rw [e 129 i (by omega) (by omega) i1 i2, e 130 i (by omega) (by omega) i1 i2, e 131 i (by omega) (by omega) i1 i2, e 132 i (by omega) (by omega) i1 i2, g 12 i (by omega) (by omega) i1 i2, g 13 i (by omega) (by omega) i1 i2, g 14 i (by omega) (by omega) i1 i2, g 15 i (by omega) (by omega) i1 i2]
  exact h i i1 i2
theorem qu_e {c d : Int} (h : (c = -1 ∧ d = 0) ∨ (c = d ∧ 0 ≤ c ∧ c ≤ 127)) : f_X10_questionOf d = qK c := by
  unfold f_X10_questionOf qK
  rw [wI_id (x := d) (by omega) (by omega)]
  rcases h with ⟨rfl, rfl⟩ | ⟨rfl, _⟩
  · decide
  · rfl
theorem m_head {σ α : St} {N dp a h p : Int} {n : Nat} (kx : St → Option (Int × St)) (hx : mX σ α) (hw : wX α) (hp : σ 118 15 = p) (h0 : 0 ≤ p) (h1 : p ≤ α 0 6) (hd : 0 ≤ dp ∧ dp ≤ 7) (hh : Hh σ N dp a h) : lp_X10_readsTree_16 kx (n + 1) σ N dp 0 = jn_X10_readsTree_68 (lp_X10_readsTree_16 kx n) (upS σ 118 15 (sk α p)) N dp (chM α (sk α p)) (qK (chC α (sk α p))) := by
  have q := sk_r hw h0 h1
  have rr := ch_p hw (show 0 ≤ sk α p by omega) q.1.2
  rw [lp_X10_readsTree_16, ewl_t (by omega), m_here hx hw hp h0 h1, bd2_s, bnd_d, qu_e (c := chC α (sk α p)) (by omega)]
  by_cases c : 0 < dp
  · obtain ⟨h1, h2, h3, h4⟩ := hh.2 c
    have hh1 := hh.1
    rw [ilw_t (by omega), rdA_t (by omega), upS_o (by omega), h1, ewl_f (by omega)]
  · rw [ilw_f (by omega)]
/-- what the reference does when it reads a node -/
def ndM (α : St) (kx : St → Option (Int × St)) (n : Nat) (σ β : St) (a dp p h : Int) (R : Int × Int × St) : Prop := (R.1 = -1 ∧ ∃ (m : Nat) (τ : St), lp_X10_readsTree_16 kx n σ (β 0 7) dp 0 = lp_X10_readsTree_16 kx m τ (R.2.2 0 7) dp (if dp = 0 then 1 else 0) ∧ (n : Int) ≤ m + (R.2.1 - p) ∧ fN σ τ (β 0 7) dp a h ∧ (τ 118 15 = R.2.1 ∧ τ 118 21 = R.2.2 0 8 ∧ τ 118 22 = R.2.2 0 9) ∧ dMt τ R.2.2 (β 0 7) (R.2.2 0 7) ∧ (0 < dp → τ (131 + h) a = β 0 7 ∧ τ 134 (dp - 1) = h + 1)) ∨ (¬ R.1 = -1 ∧ ∃ τ, lp_X10_readsTree_16 kx n σ (β 0 7) dp 0 = some (-1, τ) ∧ fO σ τ ∧ (0 ≤ τ 118 15 ∧ τ 118 15 ≤ α 0 6) ∧ sk α (τ 118 15) = R.1)
theorem m_nleaf {σ α β : St} {a dp p h : Int} {n : Nat} (kx : St → Option (Int × St)) (hx : mX σ α) (hw : wX α) (hp : σ 118 15 = p) (h0 : 0 ≤ p) (h1 : p ≤ α 0 6) (hd : 0 ≤ dp ∧ dp ≤ 7) (hh : Hh σ (β 0 7) dp a h) (hb : 0 ≤ β 0 7 ∧ β 0 7 ≤ p) (hl : σ 118 21 = β 0 8) (ht : σ 118 22 = β 0 9) (hc : chC α (sk α p) = 42) : ndM α kx (n + 1) σ β a dp p h (-1, sk α p + 1, tLf β a dp) := by
  have w2 := hw.2.1
  have q := sk_r hw h0 h1
  have rr := ch_p hw (show 0 ≤ sk α p by omega) q.1.2
  have hh1 := hh.1
  have e7 : tLf β a dp 0 7 = β 0 7 + 1 := by unfold tLf; simp (disch := omega) only [upS_h, upS_o, upS_i, Int.reduceAdd, Int.reduceSub, Int.reduceMul, Int.reduceNeg]
  have e8 : tLf β a dp 0 8 = β 0 8 + 1 := by unfold tLf; simp (disch := omega) only [upS_h, upS_o, upS_i, Int.reduceAdd, Int.reduceSub, Int.reduceMul, Int.reduceNeg]
  have e9 : tLf β a dp 0 9 = β 0 9 := by unfold tLf; simp (disch := omega) only [upS_h, upS_o, upS_i, Int.reduceAdd, Int.reduceSub, Int.reduceMul, Int.reduceNeg]
  have e12 : tLf β a dp 12 (β 0 7) = 0 := by unfold tLf; simp (disch := omega) only [upS_h, upS_o, upS_i, Int.reduceAdd, Int.reduceSub, Int.reduceMul, Int.reduceNeg]
  have e13 : tLf β a dp 13 (β 0 7) = β 0 8 := by unfold tLf; simp (disch := omega) only [upS_h, upS_o, upS_i, Int.reduceAdd, Int.reduceSub, Int.reduceMul, Int.reduceNeg]
  obtain ⟨ρ, hρ⟩ : ∃ x, x = upS (upS (upS (upS σ 118 15 (sk α p + 1)) 129 (β 0 7) 0) 130 (β 0 7) (β 0 8)) 118 21 (β 0 8 + 1) := ⟨_, rfl⟩
  have hhρ : Hh ρ (β 0 7) dp a h := ⟨hh1, fun c => by
    obtain ⟨h1, h2, h3⟩ := hh.2 c
    rw [hρ]
    refine ⟨?_, ?_, h3⟩
    · simp (disch := omega) only [upS_h, upS_o, upS_i, Int.reduceAdd, Int.reduceSub, Int.reduceMul, Int.reduceNeg, h1]
    · simp (disch := omega) only [upS_h, upS_o, upS_i, Int.reduceAdd, Int.reduceSub, Int.reduceMul, Int.reduceNeg, h2]⟩
  have hgg := m_hang hhρ hd (by omega)
  refine Or.inl ⟨rfl, n, hg ρ (β 0 7) dp a h, ?_, ?_, ⟨⟨fun o ho => ?_, fun i i1 i2 i3 => ?_⟩, fun i hi => ?_, fun i hi hi2 => ?_, fun i hi hi2 => ?_, fun i hi => ?_, fun i hi => ?_⟩, ⟨?_, ?_, ?_⟩, fun i i1 i2 => ?_, fun c => hg_h hh1 c⟩
  · rw [m_head kx hx hw hp h0 h1 hd hh]
    unfold jn_X10_readsTree_68
    have x1 : upS (upS σ 118 15 (sk α p + 1)) 129 (β 0 7) 0 118 21 = β 0 8 := by simp (disch := omega) only [upS_h, upS_o, upS_i, Int.reduceAdd, Int.reduceSub, Int.reduceMul, Int.reduceNeg, hl]
    have x2 : upS (upS (upS σ 118 15 (sk α p + 1)) 129 (β 0 7) 0) 130 (β 0 7) (β 0 8) 118 21 = β 0 8 := by simp (disch := omega) only [upS_h, upS_o, upS_i, Int.reduceAdd, Int.reduceSub, Int.reduceMul, Int.reduceNeg, hl]
    rw [ewl_t (by omega), wrF_d, upS_u, upS_h ⟨rfl, rfl⟩, wrA_t (by omega), wrA_t (by omega), wrF_d, x1, x2, ← hρ, hgg, bd2_s]
    unfold jn_X10_readsTree_251
    rw [bnd_d, wI_id (x := dp) (by omega) (by omega)]
    show _ = lp_X10_readsTree_16 kx n (hg ρ (β 0 7) dp a h) (tLf β a dp 0 7) dp (if dp = 0 then 1 else 0)
    rw [e7]
  · show ((n + 1 : Nat) : Int) ≤ n + (sk α p + 1 - p)
    omega
  · rw [hg_o hh1 (by omega) (by omega) (by omega), hρ, upS_of (by omega), upS_of (by omega), upS_of (by omega), upS_of (by omega)]
  · rw [hg_o hh1 (by omega) (by omega) (by omega), hρ, upS_i i2, upS_o (by omega), upS_o (by omega), upS_i i1]
  · rw [hg_o hh1 (by omega) (by omega) (by omega), hg_o hh1 (by omega) (by omega) (by omega), hρ]
    simp (disch := omega) only [upS_h, upS_o, upS_i, Int.reduceAdd, Int.reduceSub, Int.reduceMul, Int.reduceNeg]
    exact ⟨trivial, trivial⟩
  · rw [hg_1 hh1 hi2, hρ]
    simp (disch := omega) only [upS_h, upS_o, upS_i, Int.reduceAdd, Int.reduceSub, Int.reduceMul, Int.reduceNeg]
  · rw [hg_2 hh1 hi2, hρ]
    simp (disch := omega) only [upS_h, upS_o, upS_i, Int.reduceAdd, Int.reduceSub, Int.reduceMul, Int.reduceNeg]
  · rw [hg_o hh1 (by omega) (by omega) (by omega), hρ]
    simp (disch := omega) only [upS_h, upS_o, upS_i, Int.reduceAdd, Int.reduceSub, Int.reduceMul, Int.reduceNeg]
  · rw [hg_4 hh1 (by omega), hρ]
    simp (disch := omega) only [upS_h, upS_o, upS_i, Int.reduceAdd, Int.reduceSub, Int.reduceMul, Int.reduceNeg]
  · rw [hg_o hh1 (by omega) (by omega) (by omega), hρ]
    simp (disch := omega) only [upS_h, upS_o, upS_i, Int.reduceAdd, Int.reduceSub, Int.reduceMul, Int.reduceNeg]
  · show _ = tLf β a dp 0 8
    rw [hg_o hh1 (by omega) (by omega) (by omega), hρ, e8]
    simp (disch := omega) only [upS_h, upS_o, upS_i, Int.reduceAdd, Int.reduceSub, Int.reduceMul, Int.reduceNeg]
  · show _ = tLf β a dp 0 9
    rw [hg_o hh1 (by omega) (by omega) (by omega), hρ, e9]
    simp (disch := omega) only [upS_h, upS_o, upS_i, Int.reduceAdd, Int.reduceSub, Int.reduceMul, Int.reduceNeg, ht]
  · have i2' : i < tLf β a dp 0 7 := i2
    rw [e7] at i2'
    have ei : i = β 0 7 := by omega
    subst ei
    show _ = tLf β a dp 12 (β 0 7) ∧ _ = tLf β a dp 13 (β 0 7) ∧ (tLf β a dp 12 (β 0 7) ≠ 0 → _)
    rw [hg_o hh1 (by omega) (by omega) (by omega), hg_o hh1 (by omega) (by omega) (by omega), hρ, e12, e13]
    refine ⟨?_, ?_, fun z => absurd rfl z⟩
    · simp (disch := omega) only [upS_h, upS_o, upS_i, Int.reduceAdd, Int.reduceSub, Int.reduceMul, Int.reduceNeg]
    · simp (disch := omega) only [upS_h, upS_o, upS_i, Int.reduceAdd, Int.reduceSub, Int.reduceMul, Int.reduceNeg]
end
section
theorem m_nquest {σ α β γ : St} {a dp p h : Int} {n : Nat} (kx : St → Option (Int × St)) (hx : mX σ α) (hw : wX α) (hp : σ 118 15 = p) (h0 : 0 ≤ p) (h1 : p ≤ α 0 6) (hd : 0 ≤ dp ∧ dp < 7) (hh : Hh σ (β 0 7) dp a h) (hb : 0 ≤ β 0 7 ∧ β 0 7 ≤ p) (h9 : 0 ≤ β 0 9 ∧ β 0 9 ≤ 7) (hl : σ 118 21 = β 0 8) (ht : σ 118 22 = β 0 9) (hc : 0 < qK (chC α (sk α p))) (hf : okG α p) (ho : chC α (k2 α p) = 40) (hγ : γ = tQu β (qK (chC α (sk α p))) (chC α (k1 α p) - 48) a dp) : ∃ τ, lp_X10_readsTree_16 kx (n + 1) σ (β 0 7) dp 0 = lp_X10_readsTree_16 kx n τ (β 0 7 + 1) (dp + 1) 0 ∧ fN σ τ (β 0 7) dp a h ∧ (τ 118 15 = k2 α p + 1 ∧ τ 118 21 = γ 0 8 ∧ τ 118 22 = γ 0 9) ∧ (τ 129 (β 0 7) = qK (chC α (sk α p)) ∧ τ 130 (β 0 7) = chC α (k1 α p) - 48) ∧ (τ 133 dp = β 0 7 ∧ τ 134 dp = 0) ∧ (0 < dp → τ (131 + h) a = β 0 7 ∧ τ 134 (dp - 1) = h + 1) := by
  have w2 := hw.2.1
  have q := sk_r hw h0 h1
  have rr := ch_p hw (show 0 ≤ sk α p by omega) q.1.2
  have hh1 := hh.1
  unfold okG at hf
  have kr := qK_r (c := chC α (sk α p))
  have mr := qM_r (k := qK (chC α (sk α p)))
  have r1 := k1_r hw h0 h1 (by omega)
  have r2 := k2_r hw h0 h1 (by omega) (by omega)
  have g8 : γ 0 8 = β 0 8 := by rw [hγ]; unfold tQu; simp (disch := omega) only [upS_h, upS_o, upS_i, Int.reduceAdd, Int.reduceSub, Int.reduceMul, Int.reduceNeg]
  have g9 : γ 0 9 = (if β 0 9 < dp + 1 then dp + 1 else β 0 9) := by rw [hγ]; unfold tQu; simp (disch := omega) only [upS_h, upS_o, upS_i, Int.reduceAdd, Int.reduceSub, Int.reduceMul, Int.reduceNeg]
  have e1' : sk α (sk α p + 1) = k1 α p := rfl
  have e3' : sk α (k1 α p + 1) = k2 α p := rfl
  obtain ⟨ρ, hρ⟩ : ∃ x, x = upS (upS (upS σ 118 15 (k2 α p + 1)) 129 (β 0 7) (qK (chC α (sk α p)))) 130 (β 0 7) (chC α (k1 α p) - 48) := ⟨_, rfl⟩
  have hhρ : Hh ρ (β 0 7) dp a h := ⟨hh1, fun c => by
    obtain ⟨h1, h2, h3⟩ := hh.2 c
    rw [hρ]
    refine ⟨?_, ?_, h3⟩
    · simp (disch := omega) only [upS_h, upS_o, upS_i, Int.reduceAdd, Int.reduceSub, Int.reduceMul, Int.reduceNeg, h1]
    · simp (disch := omega) only [upS_h, upS_o, upS_i, Int.reduceAdd, Int.reduceSub, Int.reduceMul, Int.reduceNeg, h2]⟩
  have hgg := m_hang hhρ (by omega) (by omega)
  obtain ⟨ξ, hξ⟩ : ∃ x, x = upS (upS (hg ρ (β 0 7) dp a h) 133 dp (β 0 7)) 134 dp 0 := ⟨_, rfl⟩
  have ξ22 : ξ 118 22 = β 0 9 := by
    rw [hξ, upS_o (by omega), upS_o (by omega), hg_o hh1 (by omega) (by omega) (by omega), hρ]
    simp (disch := omega) only [upS_h, upS_o, upS_i, Int.reduceAdd, Int.reduceSub, Int.reduceMul, Int.reduceNeg, ht]
  refine ⟨upS ξ 118 22 (γ 0 9), ?_, ⟨⟨fun o ho => ?_, fun i i1 i2 i3 => ?_⟩, fun i hi => ?_, fun i hi hi2 => ?_, fun i hi hi2 => ?_, fun i hi => ?_, fun i hi => ?_⟩, ⟨?_, ?_, ?_⟩, ⟨?_, ?_⟩, ⟨?_, ?_⟩, fun c => ⟨?_, ?_⟩⟩
  · rw [m_head kx hx hw hp h0 h1 (by omega) hh]
    unfold jn_X10_readsTree_68
    have eq : (if wI (qK (chC α (sk α p))) < 3 then (54 : Int) else 57) = qM (qK (chC α (sk α p))) := by
      unfold qM
      rw [wI_id (x := qK (chC α (sk α p))) (by omega) (by omega)]
    rw [ewl_f (by omega), ilw_t (by omega), iwl_t (by omega), wrF_d, upS_u, upS_h ⟨rfl, rfl⟩, eq]
    rw [m_takes_t (fO_X fO_15 hx) hw (upS_h ⟨rfl, rfl⟩) (by omega) (by omega) (by omega) (show 48 ≤ chC α (sk α (sk α p + 1)) ∧ _ from hf), bd2_s, upS_u, e1', iwl_f (by omega)]
    rw [m_takes_t (fO_X fO_15 hx) hw (upS_h ⟨rfl, rfl⟩) (by omega) (by omega) (by omega) (show 40 ≤ chC α (sk α (k1 α p + 1)) ∧ _ by rw [e3']; omega), bd2_s, upS_u, e3', iwl_f (by omega), wrA_t (by omega), wrA_t (by omega), ← hρ, hgg, bd2_s, wrA_t (by omega), wrA_t (by omega), ← hξ, wrF_d, ξ22, wI_id (x := β 0 9) (by omega) (by omega), wI_id (x := dp + 1) (by omega) (by omega), ← g9]
    unfold jn_X10_readsTree_251
    rw [bnd_d, ewl_f (by omega)]
  · rw [upS_of (by omega), hξ, upS_of (by omega), upS_of (by omega), hg_o hh1 (by omega) (by omega) (by omega), hρ, upS_of (by omega), upS_of (by omega), upS_of (by omega)]
  · rw [upS_i i3, hξ, upS_o (by omega), upS_o (by omega), hg_o hh1 (by omega) (by omega) (by omega), hρ, upS_o (by omega), upS_o (by omega), upS_i i1]
  · rw [upS_o (by omega), upS_o (by omega), hξ, upS_o (by omega), upS_o (by omega), upS_o (by omega), upS_o (by omega), hg_o hh1 (by omega) (by omega) (by omega), hg_o hh1 (by omega) (by omega) (by omega), hρ]
    simp (disch := omega) only [upS_h, upS_o, upS_i, Int.reduceAdd, Int.reduceSub, Int.reduceMul, Int.reduceNeg]
    exact ⟨trivial, trivial⟩
  · rw [upS_o (by omega), hξ, upS_o (by omega), upS_o (by omega), hg_1 hh1 hi2, hρ]
    simp (disch := omega) only [upS_h, upS_o, upS_i, Int.reduceAdd, Int.reduceSub, Int.reduceMul, Int.reduceNeg]
  · rw [upS_o (by omega), hξ, upS_o (by omega), upS_o (by omega), hg_2 hh1 hi2, hρ]
    simp (disch := omega) only [upS_h, upS_o, upS_i, Int.reduceAdd, Int.reduceSub, Int.reduceMul, Int.reduceNeg]
  · rw [upS_o (by omega), hξ, upS_o (by omega), upS_i (by omega), hg_o hh1 (by omega) (by omega) (by omega), hρ]
    simp (disch := omega) only [upS_h, upS_o, upS_i, Int.reduceAdd, Int.reduceSub, Int.reduceMul, Int.reduceNeg]
  · rw [upS_o (by omega), hξ, upS_i (by omega), upS_o (by omega), hg_4 hh1 (by omega), hρ]
    simp (disch := omega) only [upS_h, upS_o, upS_i, Int.reduceAdd, Int.reduceSub, Int.reduceMul, Int.reduceNeg]
  · rw [upS_i (by omega), hξ, upS_o (by omega), upS_o (by omega), hg_o hh1 (by omega) (by omega) (by omega), hρ]
    simp (disch := omega) only [upS_h, upS_o, upS_i, Int.reduceAdd, Int.reduceSub, Int.reduceMul, Int.reduceNeg]
  · rw [upS_i (by omega), hξ, upS_o (by omega), upS_o (by omega), hg_o hh1 (by omega) (by omega) (by omega), hρ, g8]
    simp (disch := omega) only [upS_h, upS_o, upS_i, Int.reduceAdd, Int.reduceSub, Int.reduceMul, Int.reduceNeg, hl]
  · rw [upS_h ⟨rfl, rfl⟩]
  · rw [upS_o (by omega), hξ, upS_o (by omega), upS_o (by omega), hg_o hh1 (by omega) (by omega) (by omega), hρ]
    simp (disch := omega) only [upS_h, upS_o, upS_i, Int.reduceAdd, Int.reduceSub, Int.reduceMul, Int.reduceNeg]
  · rw [upS_o (by omega), hξ, upS_o (by omega), upS_o (by omega), hg_o hh1 (by omega) (by omega) (by omega), hρ]
    simp (disch := omega) only [upS_h, upS_o, upS_i, Int.reduceAdd, Int.reduceSub, Int.reduceMul, Int.reduceNeg]
  · rw [upS_o (by omega), hξ, upS_o (by omega), upS_h ⟨rfl, rfl⟩]
  · rw [upS_o (by omega), hξ, upS_h ⟨rfl, rfl⟩]
  · rw [upS_o (by omega), hξ, upS_o (by omega), upS_o (by omega)]
    exact (hg_h hh1 c).1
  · rw [upS_o (by omega), hξ, upS_i (by omega), upS_o (by omega)]
    exact (hg_h hh1 c).2
theorem m_node {α : St} (kx : St → Option (Int × St)) (hw : wX α) : ∀ (f : Nat) (a dp p h : Int) (σ β : St) (n : Nat), mX σ α → σ 118 15 = p → 0 ≤ dp → dp ≤ 7 → dp + f = 9 → 0 ≤ p → p ≤ α 0 6 → (0 ≤ β 0 7 ∧ 0 ≤ β 0 8 ∧ 0 ≤ β 0 9 ∧ β 0 9 ≤ 7) → β 0 7 ≤ p → Hh σ (β 0 7) dp a h → σ 118 21 = β 0 8 → σ 118 22 = β 0 9 → α 0 6 - p < n → ndM α kx n σ β a dp p h (ndS α f a dp p β) := by
  intro f
  have w2 := hw.2.1
  induction f with
  | zero => intro a dp p h σ β n hx hp h0 h1 h2 h3 h4 hb hbp hh hl ht hn; omega
  | succ f ih =>
    intro a dp p h σ β n hx hp h0 h1 h2 h3 h4 hb hbp hh hl ht hn
    obtain ⟨n, rfl⟩ : ∃ k, n = k + 1 := ⟨n - 1, by omega⟩
    have q := sk_r hw h3 h4
    have rr := ch_p hw (show 0 ≤ sk α p by omega) q.1.2
    have ss := sk_s hw h3 h4
    have hh1 := hh.1
    rw [ndS]
    by_cases c1 : chC α (sk α p) = 42
    · rw [if_pos c1]
      exact m_nleaf kx hx hw hp h3 h4 ⟨h0, h1⟩ hh ⟨hb.1, hbp⟩ hl ht c1
    · rw [if_neg c1]
      by_cases c2 : 0 < qK (chC α (sk α p)) ∧ dp < 7
      · rw [if_pos c2]
        have kr := qK_r (c := chC α (sk α p))
        have mr := qM_r (k := qK (chC α (sk α p)))
        have r1 := k1_r hw h3 h4 (by omega)
        have e1' : sk α (sk α p + 1) = k1 α p := rfl
        have e3' : sk α (k1 α p + 1) = k2 α p := rfl
        have eq : (if wI (qK (chC α (sk α p))) < 3 then (54 : Int) else 57) = qM (qK (chC α (sk α p))) := by
          unfold qM
          rw [wI_id (x := qK (chC α (sk α p))) (by omega) (by omega)]
        by_cases c3 : okG α p
        · have c3' := c3
          unfold okG at c3'
          have r2 := k2_r hw h3 h4 (by omega) (by omega)
          rw [if_pos c3]
          by_cases c4 : chC α (k2 α p) = 40
          · rw [if_pos c4]
            obtain ⟨γ, hγ⟩ : ∃ x, x = tQu β (qK (chC α (sk α p))) (chC α (k1 α p) - 48) a dp := ⟨_, rfl⟩
            obtain ⟨τ, t1, t2, t3, t4, t5, t6⟩ := m_nquest (n := n) kx hx hw hp h3 h4 ⟨h0, c2.2⟩ hh ⟨hb.1, hbp⟩ hb.2.2 hl ht c2.1 c3 c4 hγ
            rw [← hγ]
            have b7 : γ 0 7 = β 0 7 + 1 := by rw [hγ]; unfold tQu; simp (disch := omega) only [upS_h, upS_o, upS_i, Int.reduceAdd, Int.reduceSub, Int.reduceMul, Int.reduceNeg]
            have b8 : γ 0 8 = β 0 8 := by rw [hγ]; unfold tQu; simp (disch := omega) only [upS_h, upS_o, upS_i, Int.reduceAdd, Int.reduceSub, Int.reduceMul, Int.reduceNeg]
            have b9 : γ 0 9 = (if β 0 9 < dp + 1 then dp + 1 else β 0 9) := by rw [hγ]; unfold tQu; simp (disch := omega) only [upS_h, upS_o, upS_i, Int.reduceAdd, Int.reduceSub, Int.reduceMul, Int.reduceNeg]
            have b9' : 0 ≤ γ 0 9 ∧ γ 0 9 ≤ 7 := by
              rw [b9]
              split
              all_goals omega
            have b12 : γ 12 (β 0 7) = qK (chC α (sk α p)) := by rw [hγ]; unfold tQu; simp (disch := omega) only [upS_h, upS_o, upS_i, Int.reduceAdd, Int.reduceSub, Int.reduceMul, Int.reduceNeg]
            have b13 : γ 13 (β 0 7) = chC α (k1 α p) - 48 := by rw [hγ]; unfold tQu; simp (disch := omega) only [upS_h, upS_o, upS_i, Int.reduceAdd, Int.reduceSub, Int.reduceMul, Int.reduceNeg]
            clear hγ
            have ed : dp + 1 - 1 = dp := by omega
            have P1 := nd_p hw f (β 0 7) (dp + 1) (k2 α p + 1) γ (by omega) (by omega) (by omega) (by omega) (by omega) (by omega)
            have D1 := ih (β 0 7) (dp + 1) (k2 α p + 1) 0 τ γ n (fO_X t2.1 hx) t3.1 (by omega) (by omega) (by omega) (by omega) (by omega) (by omega) (by omega) ⟨Or.inl rfl, fun _ => by rw [ed]; exact ⟨t5.2, t5.1, hb.1, by omega⟩⟩ t3.2.1 t3.2.2 (by omega)
            obtain ⟨R1, hR1⟩ : ∃ x, x = ndS α f (β 0 7) (dp + 1) (k2 α p + 1) γ := ⟨_, rfl⟩
            rw [← hR1] at P1 D1
            rw [← hR1]
            clear hR1
            unfold nd2
            rcases D1 with ⟨g1, n1, τ1, g2, g3, g4, g5, g6, g7⟩ | ⟨g1, τ1, g2, g3, g4, g5⟩
            · rw [if_pos g1]
              obtain ⟨l1, l2, l3, l4, l5, l6, l7, l8, l9, l10⟩ := P1.2 g1
              obtain ⟨gf, gA, gB, gC, gD, gE⟩ := g4
              have g7 := g7 (by omega)
              rw [ed] at g7
              rw [if_neg (show ¬ dp + 1 = 0 by omega)] at g2
              have P2 := nd_p hw f (β 0 7) (dp + 1) R1.2.1 R1.2.2 (by omega) (by omega) (by omega) (by omega) (by omega) (by omega)
              have D2 := ih (β 0 7) (dp + 1) R1.2.1 1 τ1 R1.2.2 n1 (fO_X gf (fO_X t2.1 hx)) g5.1 (by omega) (by omega) (by omega) (by omega) (by omega) (by omega) (by omega) ⟨Or.inr rfl, fun _ => by rw [ed]; exact ⟨g7.2, by rw [gD dp (by omega)]; exact t5.1, hb.1, by omega⟩⟩ g5.2.1 g5.2.2 (by omega)
              obtain ⟨R2, hR2⟩ : ∃ x, x = ndS α f (β 0 7) (dp + 1) R1.2.1 R1.2.2 := ⟨_, rfl⟩
              rw [← hR2] at P2 D2
              rw [← hR2]
              clear hR2
              unfold nd3
              rcases D2 with ⟨m1, n2, τ2, m2, m3, m4, m5, m6, m7⟩ | ⟨m1, τ2, m2, m3, m4, m5⟩
              · rw [if_pos m1]
                obtain ⟨s1, s2, s3, s4, s5, s6, s7, s8, s9, s10⟩ := P2.2 m1
                obtain ⟨mf, mA, mB, mC, mD, mE⟩ := m4
                have m7 := m7 (by omega)
                rw [ed] at m7
                rw [if_neg (show ¬ dp + 1 = 0 by omega)] at m2
                have F2 : fO σ τ2 := fO_t (fO_t t2.1 gf) mf
                have q2 := sk_r (p := R2.2.1) hw (by omega) (by omega)
                have rr2 := ch_p hw (show 0 ≤ sk α R2.2.1 by omega) q2.1.2
                have ss2 := sk_s (p := R2.2.1) hw (by omega) (by omega)
                obtain ⟨n2, rfl⟩ : ∃ k, n2 = k + 1 := ⟨n2 - 1, by omega⟩
                have step : lp_X10_readsTree_16 kx (n2 + 1) τ2 (R2.2.2 0 7) (dp + 1) 0 = bd2 (f_X10_takes (upS τ2 118 15 (sk α R2.2.1)) 41 41) fun v10 σ11 => if wI v10 < 0 then some ((-1), σ11) else jn_X10_readsTree_251 (lp_X10_readsTree_16 kx n2) σ11 (R2.2.2 0 7) (dp + 1 + (-1)) := by
                  rw [lp_X10_readsTree_16, ewl_t (by omega), m_here (fO_X F2 hx) hw m5.1 (by omega) (by omega), bd2_s, bnd_d, ilw_t (by omega), rdA_t (by omega), ed, upS_o (by omega), m7.2, ewl_t (by omega)]
                have chain : lp_X10_readsTree_16 kx (n + 1) σ (β 0 7) dp 0 = lp_X10_readsTree_16 kx (n2 + 1) τ2 (R2.2.2 0 7) (dp + 1) 0 := by
                  rw [t1, ← b7, g2, m2]
                by_cases c5 : chC α (sk α R2.2.1) = 41
                · rw [if_pos c5]
                  have tk := m_takes_t (a := 41) (b := 41) (fO_X (fO_t F2 (fO_15 (x := sk α R2.2.1))) hx) hw (upS_h ⟨rfl, rfl⟩) (by omega) (by omega) (by omega) (show 41 ≤ chC α (sk α (sk α R2.2.1)) ∧ chC α (sk α (sk α R2.2.1)) ≤ 41 by rw [ss2]; omega)
                  rw [ss2, upS_u, c5] at tk
                  rw [tk, bd2_s, iwl_f (by omega)] at step
                  unfold jn_X10_readsTree_251 at step
                  rw [bnd_d, show dp + 1 + (-1) = dp by omega, wI_id (x := dp) (by omega) (by omega)] at step
                  have zo : ∀ o i, ¬ o = 14 → ¬ o = 15 → tBr R2.2.2 (β 0 7) (β 0 7 + 1) (R1.2.2 0 7) o i = R2.2.2 o i := fun o i h14 h15 => by unfold tBr; rw [upS_o h15, upS_o h14]
                  have zn : ∀ o i, ¬ i = β 0 7 → tBr R2.2.2 (β 0 7) (β 0 7 + 1) (R1.2.2 0 7) o i = R2.2.2 o i := fun o i hi => by unfold tBr; rw [upS_i hi, upS_i hi]
                  have z14 : tBr R2.2.2 (β 0 7) (β 0 7 + 1) (R1.2.2 0 7) 14 (β 0 7) = β 0 7 + 1 := by
                    unfold tBr
                    simp (disch := omega) only [upS_h, upS_o, upS_i, Int.reduceAdd, Int.reduceSub, Int.reduceMul, Int.reduceNeg]
                  have z15 : tBr R2.2.2 (β 0 7) (β 0 7 + 1) (R1.2.2 0 7) 15 (β 0 7) = R1.2.2 0 7 := by
                    unfold tBr
                    simp (disch := omega) only [upS_h, upS_o, upS_i, Int.reduceAdd, Int.reduceSub, Int.reduceMul, Int.reduceNeg]
                  refine Or.inl ⟨rfl, n2, upS τ2 118 15 (sk α R2.2.1 + 1), ?_, ?_, ⟨fO_t F2 fO_15, fun i hi => ?_, fun i hi hi2 => ?_, fun i hi hi2 => ?_, fun i hi => ?_, fun i hi => ?_⟩, ⟨?_, ?_, ?_⟩, ?_, fun c => ?_⟩
                  · rw [chain, step]
                    show _ = lp_X10_readsTree_16 kx n2 (upS τ2 118 15 (sk α R2.2.1 + 1)) (tBr R2.2.2 (β 0 7) (β 0 7 + 1) (R1.2.2 0 7) 0 7) dp (if dp = 0 then 1 else 0)
                    rw [zo 0 7 (by omega) (by omega)]
                  · show ((n + 1 : Nat) : Int) ≤ n2 + (sk α R2.2.1 + 1 - p)
                    omega
                  · rw [upS_o (by omega), upS_o (by omega), (mA i (by omega)).1, (mA i (by omega)).2, (gA i (by omega)).1, (gA i (by omega)).2]
                    exact t2.2.1 i hi
                  · rw [upS_o (by omega), mB i (by omega) (by omega), gB i (by omega) (by omega)]
                    exact t2.2.2.1 i hi hi2
                  · rw [upS_o (by omega), mC i (by omega) (by omega), gC i (by omega) (by omega)]
                    exact t2.2.2.2.1 i hi hi2
                  · rw [upS_o (by omega), mD i (by omega), gD i (by omega)]
                    exact t2.2.2.2.2.1 i hi
                  · rw [upS_o (by omega), mE i (by omega), gE i (by omega)]
                    exact t2.2.2.2.2.2 i hi
                  · rw [upS_h ⟨rfl, rfl⟩]
                  · show _ = tBr R2.2.2 (β 0 7) (β 0 7 + 1) (R1.2.2 0 7) 0 8
                    rw [upS_i (by omega), m5.2.1, zo 0 8 (by omega) (by omega)]
                  · show _ = tBr R2.2.2 (β 0 7) (β 0 7 + 1) (R1.2.2 0 7) 0 9
                    rw [upS_i (by omega), m5.2.2, zo 0 9 (by omega) (by omega)]
                  · show dMt _ (tBr R2.2.2 (β 0 7) (β 0 7 + 1) (R1.2.2 0 7)) (β 0 7) (tBr R2.2.2 (β 0 7) (β 0 7 + 1) (R1.2.2 0 7) 0 7)
                    rw [zo 0 7 (by omega) (by omega)]
                    have u1 : dMt (upS τ2 118 15 (sk α R2.2.1 + 1)) (tBr R2.2.2 (β 0 7) (β 0 7 + 1) (R1.2.2 0 7)) (β 0 7 + 1) (R1.2.2 0 7) := by
                      rw [b7] at g6
                      refine dMt_c g6 (fun o i o1 o2 i1 i2 => ?_) (fun o i o1 o2 i1 i2 => ?_)
                      · rw [upS_o (by omega)]
                        have : o = 129 ∨ o = 130 ∨ o = 131 ∨ o = 132 := by omega
                        rcases this with rfl | rfl | rfl | rfl
                        · exact (mA i (by omega)).1
                        · exact (mA i (by omega)).2
                        · exact mB i (by omega) (by omega)
                        · exact mC i (by omega) (by omega)
                      · rw [zn o i (by omega), s5 o i (by omega) i2]
                    have u2 : dMt (upS τ2 118 15 (sk α R2.2.1 + 1)) (tBr R2.2.2 (β 0 7) (β 0 7 + 1) (R1.2.2 0 7)) (R1.2.2 0 7) (R2.2.2 0 7) := by
                      refine dMt_c m6 (fun o i o1 o2 i1 i2 => ?_) (fun o i o1 o2 i1 i2 => ?_)
                      · rw [upS_o (by omega)]
                      · rw [zn o i (by omega)]
                    intro i i1 i2
                    by_cases d1 : i < R1.2.2 0 7
                    · by_cases d0 : i = β 0 7
                      · subst d0
                        rw [z14, z15, zo 12 _ (by omega) (by omega), zo 13 _ (by omega) (by omega), s5 12 _ (by omega) (by omega), l5 12 _ (by omega) (by omega), s5 13 _ (by omega) (by omega), l5 13 _ (by omega) (by omega), b12, b13, upS_o (by omega), upS_o (by omega), upS_o (by omega), upS_o (by omega), (mA _ (by omega)).1, (mA _ (by omega)).2, (gA _ (by omega)).1, (gA _ (by omega)).2, mB _ (by omega) (by omega)]
                        refine ⟨t4.1, t4.2, fun _ => ⟨?_, m7.1⟩⟩
                        rw [← b7]
                        exact g7.1
                      · exact u1 i (by omega) d1
                    · exact u2 i (by omega) i2
                  · rw [upS_o (by omega), upS_o (by omega), mE (dp - 1) (by omega), gE (dp - 1) (by omega)]
                    refine ⟨?_, (t6 c).2⟩
                    have ha := (hh.2 c).2.2
                    rcases hh1 with e | e
                    · subst e
                      show τ2 131 a = β 0 7
                      rw [mB a (by omega) (by omega), gB a (by omega) (by omega)]
                      exact (t6 c).1
                    · subst e
                      show τ2 132 a = β 0 7
                      rw [mC a (by omega) (by omega), gC a (by omega) (by omega)]
                      exact (t6 c).1
                · rw [if_neg c5]
                  have tk := m_takes_f (a := 41) (b := 41) (fO_X (fO_t F2 (fO_15 (x := sk α R2.2.1))) hx) hw (upS_h ⟨rfl, rfl⟩) (by omega) (by omega) (by omega) (show ¬ (41 ≤ chC α (sk α (sk α R2.2.1)) ∧ chC α (sk α (sk α R2.2.1)) ≤ 41) by rw [ss2]; omega)
                  rw [ss2, upS_u] at tk
                  rw [tk, bd2_s, iwl_t (by omega)] at step
                  refine Or.inr ⟨by show ¬ sk α R2.2.1 = -1; omega, _, by rw [chain, step], fO_t F2 fO_15, ?_, ?_⟩
                  · rw [upS_h ⟨rfl, rfl⟩]; omega
                  · rw [upS_h ⟨rfl, rfl⟩]; exact ss2
              · rw [if_neg m1]
                exact Or.inr ⟨m1, τ2, by rw [t1, ← b7, g2, m2], fO_t (fO_t t2.1 gf) m3, m4, m5⟩
            · rw [if_neg g1]
              exact Or.inr ⟨g1, τ1, by rw [t1, ← b7, g2], fO_t t2.1 g3, g4, g5⟩
          · rw [if_neg c4]
            refine Or.inr ⟨by show ¬ k2 α p = -1; omega, upS σ 118 15 (k2 α p), ?_, fO_15, ?_, ?_⟩
            · rw [m_head kx hx hw hp h3 h4 ⟨h0, h1⟩ hh]
              unfold jn_X10_readsTree_68
              rw [ewl_f (by omega), ilw_t (by omega), iwl_t (by omega), wrF_d, upS_u, upS_h ⟨rfl, rfl⟩, eq]
              rw [m_takes_t (fO_X fO_15 hx) hw (upS_h ⟨rfl, rfl⟩) (by omega) (by omega) (by omega) (show 48 ≤ chC α (sk α (sk α p + 1)) ∧ _ from c3'), bd2_s, upS_u, e1', iwl_f (by omega)]
              rw [m_takes_f (fO_X fO_15 hx) hw (upS_h ⟨rfl, rfl⟩) (by omega) (by omega) (by omega) (show ¬ (40 ≤ chC α (sk α (k1 α p + 1)) ∧ chC α (sk α (k1 α p + 1)) ≤ 40) by rw [e3']; omega), bd2_s, upS_u, e3', iwl_t (by omega)]
            · rw [upS_h ⟨rfl, rfl⟩]; omega
            · rw [upS_h ⟨rfl, rfl⟩]; exact sk_s hw (by omega) (by omega)
        · have c3' := c3
          unfold okG at c3'
          rw [if_neg c3]
          refine Or.inr ⟨by show ¬ k1 α p = -1; omega, upS σ 118 15 (k1 α p), ?_, fO_15, ?_, ?_⟩
          · rw [m_head kx hx hw hp h3 h4 ⟨h0, h1⟩ hh]
            unfold jn_X10_readsTree_68
            rw [ewl_f (by omega), ilw_t (by omega), iwl_t (by omega), wrF_d, upS_u, upS_h ⟨rfl, rfl⟩, eq]
            rw [m_takes_f (fO_X fO_15 hx) hw (upS_h ⟨rfl, rfl⟩) (by omega) (by omega) (by omega) (show ¬ (48 ≤ chC α (sk α (sk α p + 1)) ∧ chC α (sk α (sk α p + 1)) ≤ qM (qK (chC α (sk α p)))) from c3'), bd2_s, upS_u, e1', iwl_t (by omega)]
          · rw [upS_h ⟨rfl, rfl⟩]; omega
          · rw [upS_h ⟨rfl, rfl⟩]; exact sk_s hw (by omega) (by omega)
      · rw [if_neg c2]
        refine Or.inr ⟨by show ¬ sk α p = -1; omega, upS σ 118 15 (sk α p), ?_, fO_15, ?_, ?_⟩
        · rw [m_head kx hx hw hp h3 h4 ⟨h0, h1⟩ hh]
          unfold jn_X10_readsTree_68
          rw [ewl_f (by omega)]
          have kr := qK_r (c := chC α (sk α p))
          by_cases c3 : 0 < qK (chC α (sk α p))
          · rw [ilw_t (by omega), iwl_f (by omega)]
          · rw [ilw_f (by omega)]
        · rw [upS_h ⟨rfl, rfl⟩]; omega
        · rw [upS_h ⟨rfl, rfl⟩]; exact ss
end
section
/-! ===== reads: what is asked ===== -/
def tB0 (α : St) : St := upS (upS (upS α 0 7 0) 0 8 0) 0 9 0
def rdP (α : St) : Int := sk α 0 + 3 + wdW α
def rdW (α : St) : Int × Int × St := rwS α 8 0 (rdP α) α
def rdT (α : St) : Int × Int × St := ndS α 9 (-1) 0 (rdP α) (tB0 α)
def rdF (α : St) : Int := if wdF α = -1 then (if wdW α = 0 then (rdW α).1 else (if (rdT α).1 = -1 then enS α (rdT α).2.1 else (rdT α).1)) else wdF α
def rRe (α : St) : Int := if rdF α = -1 then (if wdW α = 0 then (rdW α).2.1 else (rdT α).2.2 0 8) else -10 - rdF α
def aRe (α : St) : St := if rdF α = -1 then (if wdW α = 0 then upS (rdW α).2.2 0 1 (rdW α).2.1 else (rdT α).2.2) else α
theorem wdW_r {α : St} : (wdW α = 1 ∧ chC α (sk α 0) = 116) ∨ (wdW α = 0 ∧ ¬ chC α (sk α 0) = 116) := by
  unfold wdW
  by_cases c : chC α (sk α 0) = 116
  · left; rw [if_pos c]; exact ⟨rfl, c⟩
  · right; rw [if_neg c]; exact ⟨rfl, c⟩
theorem sLen_w {α : St} : sLen (wdW α) = 3 + wdW α := by
  unfold sLen
  have := wdW_r (α := α)
  by_cases c : wdW α = 0
  · rw [if_pos c]; omega
  · rw [if_neg c]; omega
theorem rwS_f {α : St} : ∀ (m : Nat) (n p : Int) (β : St) (o : Int), ¬ o = 7 → ¬ o = 8 → ¬ o = 9 → (rwS α m n p β).2.2 o = β o := by
  intro m
  induction m with
  | zero => intro n p β o h7 h8 h9; rfl
  | succ m ih =>
    intro n p β o h7 h8 h9
    rw [rwS]
    by_cases c : chC α (sk α p) = 59 ∧ 0 < n
    · rw [if_pos c]
    · rw [if_neg c]
      by_cases c1 : okL α p
      · rw [if_pos c1]
        by_cases c2 : okP α p
        · rw [if_pos c2]
          by_cases c3 : okD α p
          · rw [if_pos c3, ih _ _ _ o h7 h8 h9]
            unfold rwU
            rw [upS_of h9, upS_of h8, upS_of h7]
          · rw [if_neg c3]
        · rw [if_neg c2]
      · rw [if_neg c1]
theorem tB0_p {α : St} : (tB0 α 0 7 = 0 ∧ tB0 α 0 8 = 0 ∧ tB0 α 0 9 = 0) ∧ (∀ o, ¬ o = 0 → tB0 α o = α o) ∧ ∀ i, (i < 7 ∨ 9 < i) → tB0 α 0 i = α 0 i := by
  unfold tB0
  refine ⟨⟨?_, ?_, ?_⟩, fun o ho => ?_, fun i hi => ?_⟩
  · simp (disch := omega) only [upS_h, upS_o, upS_i, Int.reduceAdd, Int.reduceSub, Int.reduceMul, Int.reduceNeg]
  · simp (disch := omega) only [upS_h, upS_o, upS_i, Int.reduceAdd, Int.reduceSub, Int.reduceMul, Int.reduceNeg]
  · simp (disch := omega) only [upS_h, upS_o, upS_i, Int.reduceAdd, Int.reduceSub, Int.reduceMul, Int.reduceNeg]
  · rw [upS_of ho, upS_of ho, upS_of ho]
  · rw [upS_i (by omega), upS_i (by omega), upS_i (by omega)]
theorem rdT_p {α : St} (hw : wX α) (hp : 0 ≤ rdP α ∧ rdP α ≤ α 0 6) : ndP α (-1) 0 (rdP α) (tB0 α) (rdT α) := by
  have t := (tB0_p (α := α)).1
  exact nd_p hw 9 (-1) 0 (rdP α) (tB0 α) (by omega) (by omega) (by omega) hp.1 hp.2 (by omega)
/-! the class -/
def fC (σ τ : St) : Prop := (∀ o, (o < 21 ∨ o = 22 ∨ 33 < o) → τ o = σ o) ∧ τ 21 3 = σ 21 3
theorem fC_t {σ τ ρ : St} (h1 : fC σ τ) (h2 : fC τ ρ) : fC σ ρ := ⟨fun o ho => (h2.1 o ho).trans (h1.1 o ho), h2.2.trans h1.2⟩
theorem fC_R {σ τ : St} (h : fR σ τ) : fC σ τ := ⟨fun o ho => h.1 o (by omega), h.2 3 (by omega) (by omega)⟩
theorem fC_T {σ τ : St} (h : fT σ τ) : fC σ τ := ⟨fun o ho => h.1 o (by omega), h.2 3 (by omega) (by omega)⟩
theorem c_read {σ α : St} (h : cX σ α) (hw : wX α) : ∃ τ, f_X6_read σ = some (rdF α, τ) ∧ fC σ τ ∧ (rdF α = -1 → 0 ≤ rdP α ∧ rdP α ≤ α 0 6 ∧ ((wdW α = 0 ∧ τ 21 4 = 1 ∧ dR τ (rdW α).2.1 (rdW α).2.2) ∨ (wdW α = 1 ∧ τ 21 4 = 0 ∧ (rdT α).1 = -1 ∧ cN τ (rdT α).2.2 ∧ dTr τ (rdT α).2.2 0 ((rdT α).2.2 0 7)))) ∧ -1 ≤ rdF α ∧ rdF α ≤ 120 := by
  have w1 := hw.1
  have w2 := hw.2.1
  have q := sk_r (p := 0) hw (by omega) w1
  have wr := wdW_r (α := α)
  have sl := sLen_w (α := α)
  obtain ⟨ξ, hξ⟩ : ∃ x, x = upS (upS (upS (upS (upS (upS σ 21 5 0) 21 6 (-1)) 23 3 0) 27 6 0) 27 7 0) 27 8 0 := ⟨_, rfl⟩
  have x3 : ξ 21 3 = σ 21 3 := by rw [hξ]; simp (disch := omega) only [upS_h, upS_o, upS_i, Int.reduceAdd, Int.reduceSub, Int.reduceMul, Int.reduceNeg]
  have x5 : ξ 21 5 = 0 := by rw [hξ]; simp (disch := omega) only [upS_h, upS_o, upS_i, Int.reduceAdd, Int.reduceSub, Int.reduceMul, Int.reduceNeg]
  have x6 : ξ 21 6 = -1 := by rw [hξ]; simp (disch := omega) only [upS_h, upS_o, upS_i, Int.reduceAdd, Int.reduceSub, Int.reduceMul, Int.reduceNeg]
  have y3 : ξ 23 3 = 0 := by rw [hξ]; simp (disch := omega) only [upS_h, upS_o, upS_i, Int.reduceAdd, Int.reduceSub, Int.reduceMul, Int.reduceNeg]
  have z6 : ξ 27 6 = 0 := by rw [hξ]; simp (disch := omega) only [upS_h, upS_o, upS_i, Int.reduceAdd, Int.reduceSub, Int.reduceMul, Int.reduceNeg]
  have z7 : ξ 27 7 = 0 := by rw [hξ]; simp (disch := omega) only [upS_h, upS_o, upS_i, Int.reduceAdd, Int.reduceSub, Int.reduceMul, Int.reduceNeg]
  have z8 : ξ 27 8 = 0 := by rw [hξ]; simp (disch := omega) only [upS_h, upS_o, upS_i, Int.reduceAdd, Int.reduceSub, Int.reduceMul, Int.reduceNeg]
  have xo : ∀ o, (o < 21 ∨ o = 22 ∨ 33 < o) → ξ o = σ o := fun o ho => by rw [hξ, upS_of (by omega), upS_of (by omega), upS_of (by omega), upS_of (by omega), upS_of (by omega), upS_of (by omega)]
  have hx : cX ξ α := cX_c x3 (xo 22 (by omega)) rfl rfl h
  obtain ⟨c, hc⟩ : ∃ c, c = chC α (sk α 0) := ⟨_, rfl⟩
  obtain ⟨b, hb⟩ : ∃ b : Int, b = if c = 114 then 1 else 0 := ⟨_, rfl⟩
  obtain ⟨ρ, hρ⟩ : ∃ x, x = upS (upS ξ 21 5 (sk α 0)) 21 4 b := ⟨_, rfl⟩
  have r3 : ρ 21 3 = ξ 21 3 := by rw [hρ]; simp (disch := omega) only [upS_h, upS_o, upS_i, Int.reduceAdd, Int.reduceSub, Int.reduceMul, Int.reduceNeg]
  have r4 : ρ 21 4 = b := by rw [hρ]; simp (disch := omega) only [upS_h, upS_o, upS_i, Int.reduceAdd, Int.reduceSub, Int.reduceMul, Int.reduceNeg]
  have r5 : ρ 21 5 = sk α 0 := by rw [hρ]; simp (disch := omega) only [upS_h, upS_o, upS_i, Int.reduceAdd, Int.reduceSub, Int.reduceMul, Int.reduceNeg]
  have r6 : ρ 21 6 = -1 := by rw [hρ]; simp (disch := omega) only [upS_h, upS_o, upS_i, Int.reduceAdd, Int.reduceSub, Int.reduceMul, Int.reduceNeg, x6]
  have ro : ∀ o, ¬ o = 21 → ρ o = ξ o := fun o ho => by rw [hρ, upS_of ho, upS_of ho]
  have hr : cX ρ α := cX_c r3 (ro 22 (by omega)) rfl rfl hx
  have F0 : fC σ ρ := ⟨fun o ho => by rw [ro o (by omega), xo o ho], by rw [r3, x3]⟩
  have e : f_X6_read σ = (if c = 114 then bd2 (f_X6_readRow ρ) fun v11 σ12 => jn_X6_read_76 σ12 else if c = 116 then bd2 (f_X6_readTree ρ) fun v17 σ18 => jn_X6_read_76 σ18 else bd2 (f_X6_fail ρ) fun v19 σ20 => jn_X6_read_76 σ20) := by
    unfold f_X6_read f_X7_removeAll
    rw [wrF_d, wrF_d, wrF_d, wrF_d, wrF_d, wrF_d, bd2_s, ← hξ, c_look hx hw x5 (by omega) w1, bd2_s, wrF_d, ← hc, wI_id (x := c) (by omega) (by omega), ← hb, ← hρ]
  rw [e]
  unfold rdF
  by_cases c1 : c = 114
  · have ew : wdW α = 0 := by omega
    rw [if_pos c1] at hb ⊢
    unfold f_X6_readRow f_X6_readWord
    have g := c_word (w := 0) (p := sk α 0) (fun σ12 => some (1, σ12)) hw q.1.1 3 0 ρ 1000 hr (by omega) (by omega) rfl (by omega) (by omega)
    have e1 : sLen 0 = 3 := rfl
    have e2 : wdG α 0 (sk α 0) 3 0 = wdF α := by unfold wdF; rw [ew]; rfl
    rw [e1, e2] at g
    rw [r5]
    rcases g with ⟨g1, g2, g3⟩ | ⟨g1, g2⟩
    · rw [g3, bd2_s, if_neg (by omega), if_pos g1, if_pos ew]
      have ep : rdP α = sk α 0 + 3 := by unfold rdP; omega
      obtain ⟨τ, τ', k1, k2, k3, k4⟩ := c_row hw 8 0 (sk α 0 + 3) (upS ρ 21 5 (sk α 0 + 3)) α 1000 (fR_X fR_5 hr) (upS_h ⟨rfl, rfl⟩) (by rw [upS_i (by omega)]; exact r6) (by omega) (by omega) (by omega) (by omega) ⟨by rw [upS_o (by omega), ro 23 (by omega)]; exact y3, fun k a b => by omega⟩ (by omega)
      have kr := rwS_r hw 8 0 (sk α 0 + 3) α (by omega) (by omega)
      rw [k1, bd2_s, k2]
      refine ⟨τ', by unfold rdW; rw [ep], fC_t F0 (fC_R (fR_t fR_5 k3)), fun z => ⟨by omega, by omega, Or.inl ⟨ew, ?_, ?_⟩⟩, ?_⟩
      · rw [k3.2 4 (by omega) (by omega), upS_i (by omega), r4, hb]
      · unfold rdW at z ⊢
        rw [ep] at z ⊢
        exact k4 z
      · unfold rdW
        rw [ep]
        exact kr
    · rw [g2, bd2_s, if_pos rfl, bd2_s, c_endf (upS_h ⟨rfl, rfl⟩) (by omega), if_neg (show ¬ wdF α = -1 by omega)]
      exact ⟨_, rfl, fC_t F0 (fC_R (fR_t fR_5 fR_6)), fun z => by omega, by omega⟩
  · rw [if_neg c1] at hb ⊢
    by_cases c2 : c = 116
    · have ew : wdW α = 1 := by omega
      rw [if_pos c2]
      unfold f_X6_readTree f_X6_readWord
      have g := c_word (w := 1) (p := sk α 0) (fun σ12 => some (1, σ12)) hw q.1.1 4 0 ρ 1000 hr (by omega) (by omega) rfl (by omega) (by omega)
      have e1 : sLen 1 = 4 := rfl
      have e2 : wdG α 1 (sk α 0) 4 0 = wdF α := by unfold wdF; rw [ew]; rfl
      rw [e1, e2] at g
      rw [r5]
      rcases g with ⟨g1, g2, g3⟩ | ⟨g1, g2⟩
      · rw [g3, bd2_s, if_neg (by omega), if_pos g1, if_neg (show ¬ wdW α = 0 by omega)]
        have ep : rdP α = sk α 0 + 4 := by unfold rdP; omega
        have t0 := (tB0_p (α := α)).1
        have P := rdT_p hw (show 0 ≤ rdP α ∧ rdP α ≤ α 0 6 by omega)
        obtain ⟨v, τ, k1, k2, k3⟩ := c_node hw 9 (-1) 0 (sk α 0 + 4) (upS ρ 21 5 (sk α 0 + 4)) (tB0 α) (fT_X fT_5 hr) (upS_h ⟨rfl, rfl⟩) (by rw [upS_i (by omega)]; exact r6) (by omega) (by omega) (by omega) (by omega) (by omega) (by omega) (by omega) ⟨by rw [upS_o (by omega), ro 27 (by omega), z6, t0.1], by rw [upS_o (by omega), ro 27 (by omega), z7, t0.2.1], by rw [upS_o (by omega), ro 27 (by omega), z8, t0.2.2]⟩
        have eT : ndS α 9 (-1) 0 (sk α 0 + 4) (tB0 α) = rdT α := by unfold rdT; rw [ep]
        rw [eT] at k3
        rw [k1, bd2_s, bd2_s]
        have F1 : fC σ τ := fC_t F0 (fC_T (fT_t fT_5 k2))
        have f4 : τ 21 4 = 0 := by rw [k2.2 4 (by omega) (by omega), upS_i (by omega), r4, hb]
        rcases k3 with ⟨d1, d2, d3, d4, d5, d6, d7⟩ | ⟨d1, d2⟩
        · obtain ⟨a1, a2, a3, a4, a5, a6, a7, a8, a9, a10⟩ := P.2 d1
          rw [if_pos d1]
          obtain ⟨τ', n1, n2, n3⟩ := c_end (fT_X (fT_t fT_5 k2) hr) hw d3 d4 (by omega) (by omega)
          rw [n1]
          have er := enS_r (p := (rdT α).2.1) hw (by omega) (by omega)
          refine ⟨τ', rfl, fC_t F1 ⟨fun o ho => n2 o (by omega), n3 3 (by omega) (by omega)⟩, fun z => ⟨by omega, by omega, Or.inr ⟨ew, ?_, d1, ⟨?_, ?_, ?_⟩, ?_⟩⟩, er⟩
          · rw [n3 4 (by omega) (by omega), f4]
          · rw [n2 27 (by omega)]; exact d5.1
          · rw [n2 27 (by omega)]; exact d5.2.1
          · rw [n2 27 (by omega)]; exact d5.2.2
          · rw [t0.1] at d6
            exact dTr_c d6 (fun o i o1 o2 i1 i2 => by rw [n2 o (by omega)]) (fun _ _ _ _ _ _ => rfl)
        · have := P.1 d1
          rw [if_neg d1, c_endf d2 (by omega)]
          exact ⟨_, rfl, F1, fun z => absurd z d1, by omega⟩
      · rw [g2, bd2_s, if_pos rfl, bd2_s, c_endf (upS_h ⟨rfl, rfl⟩) (by omega), if_neg (show ¬ wdF α = -1 by omega)]
        exact ⟨_, rfl, fC_t F0 (fC_R (fR_t fR_5 fR_6)), fun z => by omega, by omega⟩
    · have ef := wdF_n hw (by omega) (by omega)
      unfold f_X6_fail
      rw [if_neg c2, wrF_d, bd2_s, r5, c_endf (upS_h ⟨rfl, rfl⟩) (by omega), ef.1, if_neg (show ¬ sk α 0 = -1 by omega)]
      exact ⟨_, rfl, fC_t F0 (fC_R fR_6), fun z => by omega, by omega⟩
/-! what was read becomes the row, the tree -/
theorem c_beR {β : St} {n : Int} (kx : St → Option (Int × St)) (hn : 0 ≤ n ∧ n ≤ 8) : ∀ (r : Nat) (x : Int) (σ : St) (N : Nat), dR σ n β → 0 ≤ x → x + r = n → σ 10 3 = x → (∀ k, 0 ≤ k → k < x → σ 11 k = β 7 k ∧ σ 12 k = β 8 k ∧ σ 13 k = β 9 k) → r < N → ∃ τ, lp_X4_become_7 10 23 kx N σ x = kx τ ∧ τ 10 3 = n ∧ (∀ k, 0 ≤ k → k < n → τ 11 k = β 7 k ∧ τ 12 k = β 8 k ∧ τ 13 k = β 9 k) ∧ ∀ o, (o < 10 ∨ 13 < o) → τ o = σ o := by
  intro r
  induction r with
  | zero =>
    intro x σ N hd h0 h1 hs hk hN
    obtain ⟨N, rfl⟩ : ∃ k, N = k + 1 := ⟨N - 1, by omega⟩
    have e := hd.1
    refine ⟨σ, ?_, by omega, fun k a b => hk k a (by omega), fun _ _ => rfl⟩
    rw [lp_X4_become_7]
    by_cases c : x < 8
    · rw [iwl_t (by omega), iww_f (by omega)]
    · rw [iwl_f (by omega)]
  | succ r ih =>
    intro x σ N hd h0 h1 hs hk hN
    obtain ⟨N, rfl⟩ : ∃ k, N = k + 1 := ⟨N - 1, by omega⟩
    have e := hd.1
    obtain ⟨v1, v2, v3⟩ := hd.2 x h0 (by omega)
    obtain ⟨ρ, hρ⟩ : ∃ y, y = upS (upS (upS (upS σ 11 x (β 7 x)) 12 x (β 8 x)) 13 x (β 9 x)) 10 3 (x + 1) := ⟨_, rfl⟩
    have ro : ∀ o, (o < 10 ∨ 13 < o) → ρ o = σ o := fun o ho => by rw [hρ, upS_of (by omega), upS_of (by omega), upS_of (by omega), upS_of (by omega)]
    obtain ⟨τ, g1, g2, g3, g4⟩ := ih (x + 1) ρ N (dR_c (fun o a b => ro o (by omega)) hd) (by omega) (by omega) (by rw [hρ, upS_h ⟨rfl, rfl⟩]) (fun k a b => by
      rw [hρ]
      by_cases c : k = x
      · subst c
        simp (disch := omega) only [upS_h, upS_o, upS_i, Int.reduceAdd, Int.reduceSub, Int.reduceMul, Int.reduceNeg]
        exact ⟨trivial, trivial, trivial⟩
      · have := hk k a (by omega)
        simp (disch := omega) only [upS_h, upS_o, upS_i, Int.reduceAdd, Int.reduceSub, Int.reduceMul, Int.reduceNeg]
        exact this) (by omega)
    refine ⟨τ, ?_, g2, g3, fun o ho => by rw [g4 o ho, ro o ho]⟩
    rw [← g1, lp_X4_become_7, iwl_t (by omega), iww_t (by omega)]
    unfold f_X4_add
    simp (disch := omega) only [↓rdA_t, ↓wrA_t, ↓ixA_t, ↓wrF_d, ↓bd2_s, ↓bd1_s, ↓bnd_d, ↓iww_t, ↓iww_f, ↓iwl_t, ↓iwl_f, ↓ilw_t, ↓ilw_f, ↓eww_t, ↓eww_f, ↓ewl_t, ↓ewl_f, ↓ez_t, ↓ez_f, ↓il_t, ↓il_f, il_t, il_f, ez_t, ez_f, if_true, if_false, upS_h, upS_o, upS_i, Int.reduceAdd, Int.reduceSub, Int.reduceMul, Int.reduceNeg, wI_id, v1, v2, v3, hs]
    rw [hρ]
theorem c_beT {σ0 : St} {n : Int} (kx : St → Option (Int × St)) (hn : 0 ≤ n ∧ n ≤ 120) : ∀ (r : Nat) (x : Int) (σ : St) (N : Nat), σ 14 6 = n → (∀ o, 27 ≤ o → σ o = σ0 o) → 0 ≤ x → x + r = n → (∀ j k, 1 ≤ j → j ≤ 6 → 0 ≤ k → k < x → σ (14 + j) k = σ0 (27 + j) k) → r < N → ∃ τ, lp_X7_become_26 14 27 kx N σ x = kx τ ∧ (∀ j k, 1 ≤ j → j ≤ 6 → 0 ≤ k → k < n → τ (14 + j) k = σ0 (27 + j) k) ∧ ∀ o, (o < 15 ∨ 20 < o) → τ o = σ o := by
  intro r
  induction r with
  | zero =>
    intro x σ N hs hd h0 h1 hk hN
    obtain ⟨N, rfl⟩ : ∃ k, N = k + 1 := ⟨N - 1, by omega⟩
    refine ⟨σ, ?_, fun j k a b c d => hk j k a b c (by omega), fun _ _ => rfl⟩
    rw [lp_X7_become_26]
    by_cases c : x < 120
    · rw [iwl_t (by omega), iww_f (by omega)]
    · rw [iwl_f (by omega)]
  | succ r ih =>
    intro x σ N hs hd h0 h1 hk hN
    obtain ⟨N, rfl⟩ : ∃ k, N = k + 1 := ⟨N - 1, by omega⟩
    obtain ⟨ρ, hρ⟩ : ∃ y, y = upS (upS (upS (upS (upS (upS σ 15 x (σ0 28 x)) 16 x (σ0 29 x)) 17 x (σ0 30 x)) 18 x (σ0 31 x)) 19 x (σ0 32 x)) 20 x (σ0 33 x) := ⟨_, rfl⟩
    have ro : ∀ o, (o < 15 ∨ 20 < o) → ρ o = σ o := fun o ho => by rw [hρ, upS_of (by omega), upS_of (by omega), upS_of (by omega), upS_of (by omega), upS_of (by omega), upS_of (by omega)]
    obtain ⟨τ, g1, g2, g3⟩ := ih (x + 1) ρ N (by rw [ro 14 (by omega)]; exact hs) (fun o ho => by rw [ro o (by omega), hd o ho]) (by omega) (by omega) (fun j k a b c d => by
      rw [hρ]
      by_cases c : k = x
      · subst c
        have : j = 1 ∨ j = 2 ∨ j = 3 ∨ j = 4 ∨ j = 5 ∨ j = 6 := by omega
        rcases this with rfl | rfl | rfl | rfl | rfl | rfl <;> simp (disch := omega) only [upS_h, upS_o, upS_i, Int.reduceAdd, Int.reduceSub, Int.reduceMul, Int.reduceNeg]
      · rw [upS_i c, upS_i c, upS_i c, upS_i c, upS_i c, upS_i c]
        exact hk j k a b (by omega) (by omega)) (by omega)
    refine ⟨τ, ?_, g2, fun o ho => by rw [g3 o ho, ro o ho]⟩
    rw [← g1, lp_X7_become_26, iwl_t (by omega), iww_t (by omega)]
    simp (disch := omega) only [↓rdA_t, ↓wrA_t, ↓ixA_t, ↓wrF_d, ↓bd2_s, ↓bd1_s, ↓bnd_d, ↓iww_t, ↓iww_f, ↓iwl_t, ↓iwl_f, ↓ilw_t, ↓ilw_f, ↓eww_t, ↓eww_f, ↓ewl_t, ↓ewl_f, ↓ez_t, ↓ez_f, ↓il_t, ↓il_f, il_t, il_f, ez_t, ez_f, if_true, if_false, upS_h, upS_o, upS_i, Int.reduceAdd, Int.reduceSub, Int.reduceMul, Int.reduceNeg, wI_id, hd]
    rw [hρ]
end
section
/-! ===== reads ===== -/
theorem re_row {α : St} (hw : WF α) (hp : 0 ≤ rdP α ∧ rdP α ≤ α 0 6) : (0 ≤ (rdW α).2.1 ∧ (rdW α).2.1 ≤ 8) ∧ wRd (rdW α).2.1 (rdW α).2.2 ∧ ∀ o, ¬ o = 7 → ¬ o = 8 → ¬ o = 9 → (rdW α).2.2 o = α o := by
  have g := rwS_w hw.2.2.2.1 8 0 (rdP α) α hp.1 hp.2 (by omega) (by omega) (fun k a b => by omega)
  exact ⟨g.1, g.2, rwS_f 8 0 (rdP α) α⟩
theorem re_tree {α : St} (hw : WF α) (hp : 4 ≤ rdP α ∧ rdP α ≤ α 0 6) (h1 : (rdT α).1 = -1) : wT (rdT α).2.2 ∧ (∀ i, (i < 7 ∨ 9 < i) → (rdT α).2.2 0 i = α 0 i) ∧ ∀ o, 1 ≤ o → (o < 12 ∨ 17 < o) → (rdT α).2.2 o = α o := by
  have w2 := hw.2.2.2.1.2.1
  have t0 := tB0_p (α := α)
  obtain ⟨a1, a2, a3, a4, a5, a6, a7, a8, a9, a10⟩ := (rdT_p hw.2.2.2.1 (by omega)).2 h1
  rw [t0.1.1] at a2 a8 a9 a10
  rw [t0.1.2.1] at a3
  rw [t0.1.2.2] at a4
  refine ⟨⟨by omega, by omega, by omega, a9, a10, fun i i1 i2 => a8 i i1 i2⟩, fun i hi => by rw [a7 i hi, t0.2.2 i hi], fun o o1 o2 => by rw [a6 o (by omega) o2, t0.2.1 o (by omega)]⟩
theorem re_p {α : St} (hw : wX α) (h : rdF α = -1) : wdF α = -1 := by
  unfold rdF at h
  by_cases c : wdF α = -1
  · exact c
  · rw [if_neg c] at h; exact absurd h c
theorem re_4 {α : St} (hw : wX α) (h : wdW α = 1) : 4 ≤ rdP α := by
  have q := sk_r (p := 0) hw (by omega) hw.1
  unfold rdP
  omega
theorem re_T {α : St} (hw : wX α) (h : rdF α = -1) (h1 : wdW α = 1) (hp : 0 ≤ rdP α ∧ rdP α ≤ α 0 6) : (rdT α).1 = -1 := by
  have c := re_p hw h
  unfold rdF at h
  rw [if_pos c, if_neg (show ¬ wdW α = 0 by omega)] at h
  by_cases d : (rdT α).1 = -1
  · exact d
  · rw [if_neg d] at h; exact h
theorem wf_reads {α : St} (hw : WF α) (hp : rdF α = -1 → 0 ≤ rdP α ∧ rdP α ≤ α 0 6) : WF (aRe α) := by
  have wr := wdW_r (α := α)
  unfold aRe
  by_cases c : rdF α = -1
  · rw [if_pos c]
    have hp := hp c
    by_cases c1 : wdW α = 0
    · rw [if_pos c1]
      obtain ⟨g1, g2, g3⟩ := re_row hw hp
      have e0 : (rdW α).2.2 0 = α 0 := g3 0 (by omega) (by omega) (by omega)
      refine WF_chR (fun i hi => by rw [upS_i hi, e0]) (fun o o1 o2 => by rw [upS_of (by omega)]; exact g3 o (by omega) (by omega) (by omega)) hw ⟨?_, ?_, fun k a b => ?_⟩
      · rw [upS_h ⟨rfl, rfl⟩]; exact g1.1
      · rw [upS_h ⟨rfl, rfl⟩]; exact g1.2
      · rw [upS_h ⟨rfl, rfl⟩] at b
        rw [upS_o (by omega), upS_o (by omega), upS_o (by omega)]
        exact g2 k a b
    · rw [if_neg c1]
      have c2 : wdW α = 1 := by omega
      obtain ⟨g1, g2, g3⟩ := re_tree hw ⟨re_4 hw.2.2.2.1 c2, hp.2⟩ (re_T hw.2.2.2.1 c c2 hp)
      exact WF_chT g2 (fun o o1 o2 => g3 o o1 (by omega)) hw g1
  · rw [if_neg c]; exact hw
theorem xc_reads {σ α : St} (h : IC σ α) (hw : WF α) : oC (f_X9_reads σ) σ α (rRe α) (aRe α) ∧ (rdF α = -1 → 0 ≤ rdP α ∧ rdP α ≤ α 0 6) := by
  obtain ⟨τ, e1, e2, e3, e4⟩ := c_read h.2.2.2.1 hw.2.2.2.1
  refine ⟨?_, fun z => ⟨(e3 z).1, (e3 z).2.1⟩⟩
  have hI : IC τ α := IC_scr (fun o ho i hi => by
    by_cases c : o = 21
    · subst c; rw [hi rfl]; exact e2.2
    · rw [e2.1 o (by omega)]) h
  have hF : ∀ o, 118 ≤ o → τ o = σ o := fun o ho => e2.1 o (by omega)
  unfold f_X9_reads rRe aRe
  rw [e1, bd2_s]
  by_cases c : rdF α = -1
  · rw [if_pos c, if_pos c, ewl_t (by omega)]
    obtain ⟨p0, p1, e3⟩ := e3 c
    rcases e3 with ⟨d1, d2, d3⟩ | ⟨d1, d2, d3, d4, d5⟩
    · rw [if_pos d1, if_pos d1, ewl_f (by omega)]
      obtain ⟨g1, g2, g3⟩ := re_row hw ⟨p0, p1⟩
      have e0 : (rdW α).2.2 0 = α 0 := g3 0 (by omega) (by omega) (by omega)
      obtain ⟨ρ, k1, k2, k3, k4⟩ := c_beR (fun σ9 => some (0, σ9)) g1 (rdW α).2.1.toNat 0 (upS τ 10 3 0) 1000 (dR_c (fun o a b => upS_of (by omega)) d3) (by omega) (by omega) (upS_h ⟨rfl, rfl⟩) (fun k a b => by omega) (by omega)
      unfold f_X4_become
      rw [wrF_d, k1, bd2_s, k2]
      refine ⟨ρ, rfl, IC_chR (fun o ho i hi => by rw [k4 o ho, upS_o (by omega)]) (fun i hi => by rw [upS_i hi, e0]) (fun o o1 o2 => by rw [upS_of (by omega)]; exact g3 o (by omega) (by omega) (by omega)) hI ⟨?_, fun k a b => ?_⟩, fun o ho => by rw [k4 o (by omega), upS_of (by omega), hF o ho]⟩
      · rw [upS_h ⟨rfl, rfl⟩]; exact k2
      · rw [upS_h ⟨rfl, rfl⟩] at b
        rw [upS_o (by omega), upS_o (by omega), upS_o (by omega)]
        exact k3 k a b
    · have d0 : ¬ wdW α = 0 := by omega
      rw [if_neg d0, if_neg d0, ewl_t (by omega)]
      obtain ⟨g1, g2, g3⟩ := re_tree hw ⟨re_4 hw.2.2.2.1 d1, p1⟩ d3
      have n1 := g1.1
      obtain ⟨ξ, hξ⟩ : ∃ x, x = upS (upS (upS τ 14 6 (τ 27 6)) 14 7 (τ 27 7)) 14 8 (τ 27 8) := ⟨_, rfl⟩
      have x6 : ξ 14 6 = (rdT α).2.2 0 7 := by
        rw [hξ]
        simp (disch := omega) only [upS_h, upS_o, upS_i, Int.reduceAdd, Int.reduceSub, Int.reduceMul, Int.reduceNeg, d4.1]
      have x7 : ξ 14 7 = (rdT α).2.2 0 8 := by
        rw [hξ]
        simp (disch := omega) only [upS_h, upS_o, upS_i, Int.reduceAdd, Int.reduceSub, Int.reduceMul, Int.reduceNeg, d4.2.1]
      have x8 : ξ 14 8 = (rdT α).2.2 0 9 := by
        rw [hξ]
        simp (disch := omega) only [upS_h, upS_o, upS_i, Int.reduceAdd, Int.reduceSub, Int.reduceMul, Int.reduceNeg, d4.2.2]
      have xo : ∀ o, ¬ o = 14 → ξ o = τ o := fun o ho => by rw [hξ, upS_of ho, upS_of ho, upS_of ho]
      obtain ⟨ρ, k1, k2, k3⟩ := c_beT (σ0 := τ) (fun σ18 => some (0, σ18)) (show 0 ≤ (rdT α).2.2 0 7 ∧ (rdT α).2.2 0 7 ≤ 120 by omega) ((rdT α).2.2 0 7).toNat 0 ξ 1000 x6 (fun o ho => xo o (by omega)) (by omega) (by omega) (fun j k a b c d => by omega) (by omega)
      have eb : f_X7_become τ 14 27 = some (0, ρ) := by
        unfold f_X7_become
        rw [wrF_d, wrF_d, wrF_d, upS_o (by omega), upS_o (by omega), upS_o (by omega), ← hξ, k1]
      rw [eb, bd2_s, k3 14 (by omega), x7]
      refine ⟨ρ, rfl, IC_chT (fun o ho i hi => by rw [k3 o (by omega), xo o (by omega)]) g2 (fun o o1 o2 => g3 o o1 (by omega)) hI ⟨?_, ?_, ?_, fun i i1 i2 => ?_⟩, fun o ho => by rw [k3 o (by omega), xo o (by omega), hF o ho]⟩
      · rw [k3 14 (by omega), x6]
      · rw [k3 14 (by omega), x7]
      · rw [k3 14 (by omega), x8]
      · have z1 := k2 1 i (by omega) (by omega) i1 i2
        have z2 := k2 2 i (by omega) (by omega) i1 i2
        have z3 := k2 3 i (by omega) (by omega) i1 i2
        have z4 := k2 4 i (by omega) (by omega) i1 i2
        have z5 := k2 5 i (by omega) (by omega) i1 i2
        have z6 := k2 6 i (by omega) (by omega) i1 i2
        simp only [Int.reduceAdd] at z1 z2 z3 z4 z5 z6
        rw [z1, z2, z3, z4, z5, z6]
        exact d5 i i1 i2
  · rw [if_neg c, if_neg c, ewl_f (by omega)]
    exact ⟨τ, rfl, hI, hF⟩
/-! the reference -/
theorem m_fin {σ α : St} {p x v : Int} (hx : mX σ α) (hw : wX α) (hp : σ 118 15 = p) (h0 : 0 ≤ p) (h1 : p ≤ α 0 6) (hx1 : x = 0 ∨ x = 1) (hv : 0 ≤ v ∧ v ≤ 1000) : (¬ enS α p = -1 ∧ ∃ y, jn_X10_reads_33 σ x v = some (-10 - enS α p, upS σ 118 15 y)) ∨ (enS α p = -1 ∧ ∃ y, jn_X10_reads_33 σ x v = jn_X10_reads_72 (upS σ 118 15 y) x v 1) := by
  have w2 := hw.2.1
  have q := sk_r hw h0 h1
  have ss := sk_s hw h0 h1
  have bad : ∀ y : Int, 0 ≤ y → y ≤ α 0 6 → sk α y = y → jn_X10_reads_72 (upS σ 118 15 y) x v 0 = some (-10 - y, upS σ 118 15 y) := by
    intro y y0 y1 y2
    unfold jn_X10_reads_72
    rw [ewl_t (by omega), iwl_f (by omega), m_here (p := y) (fO_X fO_15 hx) hw (upS_h ⟨rfl, rfl⟩) y0 y1, bd2_s, y2, upS_u, upS_h ⟨rfl, rfl⟩]
  unfold jn_X10_reads_33
  rw [iwl_f (by omega)]
  by_cases c : chC α (sk α p) = 59
  · have q2 := sk_r (p := sk α p + 1) hw (by omega) (by omega)
    have rr2 := ch_p hw (show 0 ≤ sk α (sk α p + 1) by omega) q2.1.2
    rw [m_takes_t hx hw hp h0 h1 (by omega) (by omega), bd2_s, ewl_t (by omega), m_here (fO_X fO_15 hx) hw (upS_h ⟨rfl, rfl⟩) (by omega) (by omega), bd2_s, upS_u, upS_h ⟨rfl, rfl⟩, upS_i (by omega), hx.1]
    unfold enS
    rw [if_pos c]
    by_cases c2 : chC α (sk α (sk α p + 1)) = -1
    · right
      rw [if_pos c2, ewl_t (by omega), eww_t (by omega)]
      exact ⟨rfl, _, rfl⟩
    · left
      rw [if_neg c2]
      refine ⟨by omega, sk α (sk α p + 1), ?_⟩
      have ez : (if wI (chM α (sk α (sk α p + 1))) = 0 then (if wI (sk α (sk α p + 1)) = wI (α 0 6) then (1 : Int) else 0) else 0) = 0 := by
        by_cases c3 : chM α (sk α (sk α p + 1)) = 0
        · rw [ewl_t (by omega), eww_f (by omega)]
        · rw [ewl_f (by omega)]
      rw [ez]
      exact bad _ (by omega) (by omega) (sk_s hw (by omega) (by omega))
  · left
    unfold enS
    rw [if_neg c, m_takes_f hx hw hp h0 h1 (by omega) (by omega), bd2_s, ewl_f (by omega)]
    exact ⟨by omega, sk α p, bad _ (by omega) (by omega) ss⟩
theorem m_flt {σ α : St} {p x : Int} (hx : mX σ α) (hw : wX α) (hp : σ 118 15 = p) (h0 : 0 ≤ p) (h1 : p ≤ α 0 6) (hx1 : x = 0 ∨ x = 1) : jn_X10_reads_33 σ x (-1) = some (-10 - sk α p, upS σ 118 15 (sk α p)) := by
  unfold jn_X10_reads_33 jn_X10_reads_72
  rw [iwl_t (by omega), ewl_t (by omega), iwl_t (by omega), iwl_f (by omega), m_here hx hw hp h0 h1, bd2_s, upS_h ⟨rfl, rfl⟩]
theorem m_cpR {v : Int} (kx : St → Option (Int × St)) (hv : 0 ≤ v ∧ v ≤ 8) {σ0 : St} : ∀ (r : Nat) (x : Int) (σ : St) (N : Nat), σ 128 = σ0 128 → 0 ≤ x → x + r = 3 * v → (∀ k, 0 ≤ k → k < x → σ 120 k = σ0 128 k) → r < N → ∃ τ, lp_X10_reads_115 v kx N σ x = kx τ ∧ (∀ k, 0 ≤ k → k < 3 * v → τ 120 k = σ0 128 k) ∧ ∀ o, ¬ o = 120 → τ o = σ o := by
  intro r
  induction r with
  | zero =>
    intro x σ N hd h0 h1 hk hN
    obtain ⟨N, rfl⟩ : ∃ k, N = k + 1 := ⟨N - 1, by omega⟩
    refine ⟨σ, ?_, fun k a b => hk k a (by omega), fun _ _ => rfl⟩
    rw [lp_X10_reads_115, iww_f (by omega)]
  | succ r ih =>
    intro x σ N hd h0 h1 hk hN
    obtain ⟨N, rfl⟩ : ∃ k, N = k + 1 := ⟨N - 1, by omega⟩
    obtain ⟨τ, g1, g2, g3⟩ := ih (x + 1) (upS σ 120 x (σ0 128 x)) N (by rw [upS_of (by omega), hd]) (by omega) (by omega) (fun k a b => by
      by_cases c : k = x
      · subst c; exact upS_h ⟨rfl, rfl⟩
      · rw [upS_i c]; exact hk k a (by omega)) (by omega)
    refine ⟨τ, ?_, g2, fun o ho => by rw [g3 o ho, upS_of ho]⟩
    rw [← g1, lp_X10_reads_115, iww_t (by omega), rdA_t (by omega), wrA_t (by omega), hd]
theorem m_cpT {v : Int} (kx : St → Option (Int × St)) {σ0 : St} : ∀ (r : Nat) (x : Int) (σ : St) (N : Nat), (∀ o, 129 ≤ o → σ o = σ0 o) → 0 ≤ x → x + r = 128 → (∀ j k, 0 ≤ j → j ≤ 3 → 0 ≤ k → k < x → σ (122 + j) k = σ0 (129 + j) k) → r < N → ∃ τ, lp_X10_reads_162 v kx N σ x = kx τ ∧ (∀ j k, 0 ≤ j → j ≤ 3 → 0 ≤ k → k < 128 → τ (122 + j) k = σ0 (129 + j) k) ∧ ∀ o, (o < 122 ∨ 125 < o) → τ o = σ o := by
  intro r
  induction r with
  | zero =>
    intro x σ N hd h0 h1 hk hN
    obtain ⟨N, rfl⟩ : ∃ k, N = k + 1 := ⟨N - 1, by omega⟩
    refine ⟨σ, ?_, fun j k a b c d => hk j k a b c (by omega), fun _ _ => rfl⟩
    rw [lp_X10_reads_162, iwl_f (by omega)]
  | succ r ih =>
    intro x σ N hd h0 h1 hk hN
    obtain ⟨N, rfl⟩ : ∃ k, N = k + 1 := ⟨N - 1, by omega⟩
    obtain ⟨ρ, hρ⟩ : ∃ y, y = upS (upS (upS (upS σ 122 x (σ0 129 x)) 123 x (σ0 130 x)) 124 x (σ0 131 x)) 125 x (σ0 132 x) := ⟨_, rfl⟩
    have ro : ∀ o, (o < 122 ∨ 125 < o) → ρ o = σ o := fun o ho => by rw [hρ, upS_of (by omega), upS_of (by omega), upS_of (by omega), upS_of (by omega)]
    obtain ⟨τ, g1, g2, g3⟩ := ih (x + 1) ρ N (fun o ho => by rw [ro o (by omega), hd o ho]) (by omega) (by omega) (fun j k a b c d => by
      rw [hρ]
      by_cases c : k = x
      · subst c
        have : j = 0 ∨ j = 1 ∨ j = 2 ∨ j = 3 := by omega
        rcases this with rfl | rfl | rfl | rfl <;> simp (disch := omega) only [upS_h, upS_o, upS_i, Int.reduceAdd, Int.reduceSub, Int.reduceMul, Int.reduceNeg]
      · rw [upS_i c, upS_i c, upS_i c, upS_i c]
        exact hk j k a b (by omega) (by omega)) (by omega)
    refine ⟨τ, ?_, g2, fun o ho => by rw [g3 o ho, ro o ho]⟩
    rw [← g1, lp_X10_reads_162, iwl_t (by omega)]
    simp (disch := omega) only [↓rdA_t, ↓wrA_t, ↓ixA_t, ↓wrF_d, ↓bd2_s, ↓bd1_s, ↓bnd_d, ↓iww_t, ↓iww_f, ↓iwl_t, ↓iwl_f, ↓ilw_t, ↓ilw_f, ↓eww_t, ↓eww_f, ↓ewl_t, ↓ewl_f, ↓ez_t, ↓ez_f, ↓il_t, ↓il_f, il_t, il_f, ez_t, ez_f, if_true, if_false, upS_h, upS_o, upS_i, Int.reduceAdd, Int.reduceSub, Int.reduceMul, Int.reduceNeg, wI_id, hd]
    rw [hρ]
end
section
/-! ===== reads of the reference ===== -/
def fQ (σ τ : St) : Prop := (∀ o, (o < 118 ∨ (118 < o ∧ o < 128) ∨ 134 < o) → τ o = σ o) ∧ ∀ i, ¬ i = 15 → ¬ i = 21 → ¬ i = 22 → τ 118 i = σ 118 i
theorem fQ_t {σ τ ρ : St} (h1 : fQ σ τ) (h2 : fQ τ ρ) : fQ σ ρ := ⟨fun o ho => (h2.1 o ho).trans (h1.1 o ho), fun i a b c => (h2.2 i a b c).trans (h1.2 i a b c)⟩
theorem fQ_M {σ τ : St} (h : fM σ τ) : fQ σ τ := ⟨fun o ho => h.1 o (by omega) (by omega), fun i a b c => h.2 i a⟩
theorem fQ_O {σ τ : St} (h : fO σ τ) : fQ σ τ := ⟨fun o ho => h.1 o (by omega), h.2⟩
theorem fQ_I {σ τ α : St} (h : fQ σ τ) (hI : IM σ α) : IM τ α := IM_scr (fun i hi => h.2 i (by unfold mF at hi; omega) (by unfold mF at hi; omega) (by unfold mF at hi; omega)) (fun o a b => h.1 o (by omega)) hI
theorem fQ_o {σ τ : St} (h : fQ σ τ) : ∀ o, o < 118 → τ o = σ o := fun o ho => h.1 o (by omega)
theorem m_okR {σ α : St} {p v y : Int} (hI : IM σ α) (hw : WF α) (hp : 0 ≤ rdP α ∧ rdP α ≤ α 0 6) (hv : v = (rdW α).2.1) (hd : dM σ (rdW α).2.1 (rdW α).2.2) : oM (jn_X10_reads_72 (upS σ 118 15 y) 0 v 1) σ α v (upS (rdW α).2.2 0 1 (rdW α).2.1) := by
  obtain ⟨g1, g2, g3⟩ := re_row hw hp
  have e0 : (rdW α).2.2 0 = α 0 := g3 0 (by omega) (by omega) (by omega)
  unfold jn_X10_reads_72
  rw [ewl_f (by omega), ewl_t (by omega), wrF_d]
  obtain ⟨τ, k1, k2, k3⟩ := m_cpR (v := v) (fun σ18 => some (v, σ18)) (by omega) (σ0 := σ) (3 * v).toNat 0 (upS (upS σ 118 15 y) 118 3 v) 1000 (by rw [upS_of (by omega), upS_of (by omega)]) (by omega) (by omega) (fun k a b => by omega) (by omega)
  have hI2 : IM (upS σ 118 15 y) α := fQ_I (fQ_O fO_15) hI
  rw [k1]
  refine ⟨τ, rfl, IM_chR (σ := upS σ 118 15 y) (fun i hi hi2 => by rw [k3 118 (by omega), upS_i hi2]) (fun o a b c => by rw [k3 o b, upS_of (by omega)]) (fun i hi => by rw [upS_i hi, e0]) (fun o o1 o2 => by rw [upS_of (by omega)]; exact g3 o (by omega) (by omega) (by omega)) hI2 ⟨?_, fun k w a b c d => ?_⟩, fun o ho => by rw [k3 o (by omega), upS_of (by omega), upS_of (by omega)]⟩
  · rw [k3 118 (by omega), upS_h ⟨rfl, rfl⟩, upS_h ⟨rfl, rfl⟩, hv]
  · rw [upS_h ⟨rfl, rfl⟩] at b
    rw [upS_o (by omega), k2 (3 * k + w) (by omega) (by omega)]
    have z := hd k a b
    have : w = 0 ∨ w = 1 ∨ w = 2 := by omega
    rcases this with rfl | rfl | rfl
    · rw [Int.add_zero]; exact z.1
    · exact z.2.1
    · exact z.2.2
theorem m_okT {σ α : St} {v y : Int} (hI : IM σ α) (hw : WF α) (hp : 4 ≤ rdP α ∧ rdP α ≤ α 0 6) (h1 : (rdT α).1 = -1) (hv : v = (rdT α).2.2 0 8) (h9 : σ 118 22 = (rdT α).2.2 0 9) (hd : dMt σ (rdT α).2.2 0 ((rdT α).2.2 0 7)) : oM (jn_X10_reads_72 (upS σ 118 15 y) 1 v 1) σ α v (rdT α).2.2 := by
  obtain ⟨g1, g2, g3⟩ := re_tree hw hp h1
  have n1 := g1.1
  unfold jn_X10_reads_72
  rw [ewl_f (by omega), ewl_f (by omega), wrF_d, wrF_d, upS_i (by omega), upS_i (by omega), h9]
  obtain ⟨τ, k1, k2, k3⟩ := m_cpT (v := v) (fun σ18 => some (v, σ18)) (σ0 := σ) 128 0 (upS (upS (upS σ 118 15 y) 118 10 v) 118 11 ((rdT α).2.2 0 9)) 1000 (fun o ho => by rw [upS_of (by omega), upS_of (by omega), upS_of (by omega)]) (by omega) (by omega) (fun j k a b c d => by omega) (by omega)
  have hI2 : IM (upS σ 118 15 y) α := fQ_I (fQ_O fO_15) hI
  rw [k1]
  refine ⟨τ, rfl, IM_chT (σ := upS σ 118 15 y) (fun i hi a b => by rw [k3 118 (by omega), upS_i b, upS_i a]) (fun o a b c => by rw [k3 o c, upS_of (by omega), upS_of (by omega)]) g2 (fun o o1 o2 => g3 o o1 (by omega)) hI2 ⟨?_, ?_, fun i i1 i2 => ?_⟩, fun o ho => by rw [k3 o (by omega), upS_of (by omega), upS_of (by omega), upS_of (by omega)]⟩
  · rw [k3 118 (by omega), upS_i (by omega), upS_h ⟨rfl, rfl⟩, hv]
  · rw [k3 118 (by omega), upS_h ⟨rfl, rfl⟩]
  · have z0 := k2 0 i (by omega) (by omega) i1 (by omega)
    have z1 := k2 1 i (by omega) (by omega) i1 (by omega)
    have z2 := k2 2 i (by omega) (by omega) i1 (by omega)
    have z3 := k2 3 i (by omega) (by omega) i1 (by omega)
    simp only [Int.reduceAdd] at z0 z1 z2 z3
    rw [z0, z1, z2, z3]
    exact hd i i1 i2
theorem xm_reads {σ α : St} (h : IM σ α) (hw : WF α) : oM (f_X10_reads σ) σ α (rRe α) (aRe α) := by
  have hx := hw.2.2.2.1
  have w1 := hx.1
  have w2 := hx.2.1
  have q := sk_r (p := 0) hx (by omega) w1
  have wr := wdW_r (α := α)
  have hI1 : IM (upS σ 118 15 0) α := fQ_I (fQ_O fO_15) h
  have F1 : fQ σ (upS σ 118 15 0) := fQ_O fO_15
  unfold f_X10_reads
  rw [wrF_d]
  rcases m_tword hI1.2.2.2.1 hx (upS_h ⟨rfl, rfl⟩) with ⟨g1, g2, g3⟩ | ⟨g1, g2⟩
  · rw [g3, bd2_s, iwl_f (by omega), upS_u]
    have hpP : 0 ≤ rdP α ∧ rdP α ≤ α 0 6 := by unfold rdP; omega
    have eP : sk α 0 + 3 + wdW α = rdP α := rfl
    rw [eP]
    have hI2 : IM (upS σ 118 15 (rdP α)) α := fQ_I (fQ_O fO_15) h
    have F2 : fQ σ (upS σ 118 15 (rdP α)) := fQ_O fO_15
    unfold rRe aRe rdF
    rw [if_pos g1]
    by_cases c : wdW α = 0
    · rw [ewl_t (by omega), if_pos c, if_pos c, if_pos c]
      unfold f_X10_readsRow
      obtain ⟨v, τ, k1, k2, k3, k4⟩ := m_rowl hx 8 0 (rdP α) (upS σ 118 15 (rdP α)) α 1000 hI2.2.2.2.1 (upS_h ⟨rfl, rfl⟩) hpP.1 hpP.2 (by omega) (by omega) (fun k a b => by omega) (by omega)
      have eW : rwS α 8 0 (rdP α) α = rdW α := rfl
      rw [eW] at k4
      rw [k1, bd2_s, c]
      have F3 : fQ σ τ := fQ_t F2 (fQ_M k2)
      have hI3 := fQ_I F3 h
      rcases k4 with ⟨d1, d2, d3⟩ | ⟨d1, d2, d3, d4⟩
      · rw [d1, m_flt hI3.2.2.2.1 hx rfl k3.1 k3.2 (Or.inl rfl), d3, if_neg (show ¬ (rdW α).1 = -1 by omega), if_neg (show ¬ (rdW α).1 = -1 by omega)]
        exact ⟨_, rfl, fQ_I (fQ_O fO_15) hI3, fQ_o (fQ_t F3 (fQ_O fO_15))⟩
      · have rw8 := re_row hw hpP
        rcases m_fin (x := 0) (v := v) hI3.2.2.2.1 hx rfl k3.1 k3.2 (Or.inl rfl) (by omega) with ⟨e1, y, e2⟩ | ⟨e1, y, e2⟩
        · rw [d3] at e1 e2
          rw [e2, if_neg e1, if_neg e1]
          exact ⟨_, rfl, fQ_I (fQ_O fO_15) hI3, fQ_o (fQ_t F3 (fQ_O fO_15))⟩
        · rw [d3] at e1
          rw [e2, if_pos e1, if_pos e1, ← d2]
          obtain ⟨ρ, n1, n2, n3⟩ := m_okR (p := 0) (v := v) (y := y) hI3 hw hpP d2 d4
          rw [← d2] at n2
          exact ⟨ρ, n1, n2, fun o ho => by rw [n3 o ho, fQ_o F3 o ho]⟩
    · have c' : wdW α = 1 := by omega
      rw [ewl_f (by omega), if_neg c, if_neg c, if_neg c]
      unfold f_X10_readsTree
      rw [wrF_d, wrF_d]
      obtain ⟨ξ, hξ⟩ : ∃ x, x = upS (upS (upS σ 118 15 (rdP α)) 118 21 0) 118 22 0 := ⟨_, rfl⟩
      rw [← hξ]
      have Fx : fQ σ ξ := by
        rw [hξ]
        exact ⟨fun o ho => by rw [upS_of (by omega), upS_of (by omega), upS_of (by omega)], fun i a b c => by rw [upS_i c, upS_i b, upS_i a]⟩
      have hIx := fQ_I Fx h
      have t0 := (tB0_p (α := α)).1
      have P := rdT_p hx hpP
      have M := m_node (fun σ43 => some (σ43 118 21, σ43)) hx 9 (-1) 0 (rdP α) 0 ξ (tB0 α) 1000 hIx.2.2.2.1 (by rw [hξ]; simp (disch := omega) only [upS_h, upS_o, upS_i, Int.reduceAdd, Int.reduceSub, Int.reduceMul, Int.reduceNeg]) (by omega) (by omega) (by omega) hpP.1 hpP.2 (by omega) (by omega) ⟨Or.inl rfl, fun z => by omega⟩ (by rw [hξ, t0.2.1]; simp (disch := omega) only [upS_h, upS_o, upS_i, Int.reduceAdd, Int.reduceSub, Int.reduceMul, Int.reduceNeg]) (by rw [hξ, t0.2.2]; simp (disch := omega) only [upS_h, upS_o, upS_i, Int.reduceAdd, Int.reduceSub, Int.reduceMul, Int.reduceNeg]) (by omega)
      have eT : ndS α 9 (-1) 0 (rdP α) (tB0 α) = rdT α := rfl
      rw [eT] at M
      rcases M with ⟨d1, m, τ, d2, d3, d4, d5, d6, d7⟩ | ⟨d1, τ, d2, d3, d4, d5⟩
      · obtain ⟨a1, a2, a3, a4, a5, a6, a7, a8, a9, a10⟩ := P.2 d1
        have rt := re_tree hw ⟨re_4 hx c', hpP.2⟩ d1
        have lv := rt.1.2.1
        obtain ⟨m, rfl⟩ : ∃ k, m = k + 1 := ⟨m - 1, by omega⟩
        have el : lp_X10_readsTree_16 (fun σ43 => some (σ43 118 21, σ43)) (m + 1) τ ((rdT α).2.2 0 7) 0 1 = some ((rdT α).2.2 0 8, τ) := by
          rw [lp_X10_readsTree_16, ewl_f (by omega), d5.2.1]
        rw [t0.1, if_pos rfl, el] at d2
        rw [d2, bd2_s, c', if_pos d1]
        have F3 : fQ σ τ := fQ_t Fx (fQ_O d4.1)
        have hI3 := fQ_I F3 h
        rcases m_fin (x := 1) (v := (rdT α).2.2 0 8) hI3.2.2.2.1 hx d5.1 (by omega) (by omega) (Or.inr rfl) (by omega) with ⟨e1, y, e2⟩ | ⟨e1, y, e2⟩
        · rw [e2, if_neg e1, if_neg e1]
          exact ⟨_, rfl, fQ_I (fQ_O fO_15) hI3, fQ_o (fQ_t F3 (fQ_O fO_15))⟩
        · rw [e2, if_pos e1, if_pos e1]
          rw [t0.1] at d6
          obtain ⟨ρ, n1, n2, n3⟩ := m_okT (v := (rdT α).2.2 0 8) (y := y) hI3 hw ⟨re_4 hx c', hpP.2⟩ d1 rfl d5.2.2 d6
          exact ⟨ρ, n1, n2, fun o ho => by rw [n3 o ho, fQ_o F3 o ho]⟩
      · have := P.1 d1
        rw [t0.1] at d2
        have F3 : fQ σ τ := fQ_t Fx (fQ_O d3)
        have hI3 := fQ_I F3 h
        rw [d2, bd2_s, c', m_flt hI3.2.2.2.1 hx rfl d4.1 d4.2 (Or.inr rfl), d5, if_neg d1, if_neg d1, if_neg d1]
        exact ⟨_, rfl, fQ_I (fQ_O fO_15) hI3, fQ_o (fQ_t F3 (fQ_O fO_15))⟩
  · rw [g2, bd2_s, iwl_t (by omega), upS_u]
    have c : ¬ wdF α = -1 := by omega
    unfold rRe aRe rdF jn_X10_reads_33 jn_X10_reads_72
    rw [if_neg c, if_neg c, if_neg c, iwl_t (by omega), ewl_t (by omega), iwl_t (by omega), iwl_t (by omega), upS_h ⟨rfl, rfl⟩]
    exact ⟨_, rfl, fQ_I (fQ_O fO_15) h, fQ_o (fQ_O fO_15)⟩
end
section
/-! ===== the start ===== -/
def a0S : St := fun o i => if o = 0 ∧ (i = 7 ∨ i = 8) then 1 else if o = 10 ∧ 0 ≤ i ∧ i < 6 then i else if o = 16 ∧ i = 0 then -1 else 0
theorem a0_z : a0S 0 0 = 0 ∧ a0S 0 1 = 0 ∧ a0S 0 2 = 0 ∧ a0S 0 3 = 0 ∧ a0S 0 4 = 0 ∧ a0S 0 5 = 0 ∧ a0S 0 6 = 0 ∧ a0S 0 7 = 1 ∧ a0S 0 8 = 1 ∧ a0S 0 9 = 0 := by decide +kernel
theorem a0_t : a0S 12 0 = 0 ∧ a0S 13 0 = 0 ∧ a0S 16 0 = -1 ∧ a0S 17 0 = 0 := by decide +kernel
theorem wf_0 : WF a0S := by
  obtain ⟨z0, z1, z2, z3, z4, z5, z6, z7, z8, z9⟩ := a0_z
  obtain ⟨t1, t2, t3, t4⟩ := a0_t
  refine ⟨⟨by omega, by omega, fun u a b => by omega⟩, ⟨by omega, by omega, fun u a b => by omega⟩, ⟨by omega, fun q a b => ?_⟩, ⟨by omega, by omega, fun u a b => by omega⟩, ⟨by omega, by omega, by omega, t3, t4, fun i a b => ?_⟩⟩
  · have : a0S 10 q = q := by
      unfold a0S
      rw [if_neg (by omega), if_pos (by omega)]
    omega
  · have e : i = 0 := by omega
    subst e
    rw [t1, t2, t4, z8]
    exact ⟨by omega, by omega, fun _ => by omega, fun z => absurd rfl z⟩
theorem st_c : st_193 1 8 = 0 ∧ st_193 9 0 = -1 ∧ st_193 9 1 = -1 ∧ st_193 9 2 = -1 ∧ st_193 9 3 = -1 ∧ st_193 10 3 = 0 ∧ st_193 0 8 = 0 ∧ st_193 0 9 = 0 ∧ st_193 0 10 = 0 ∧ st_193 0 11 = 0 ∧ st_193 64 0 = 0 ∧ st_193 65 0 = 1000000 ∧ st_193 66 0 = 0 ∧ st_193 67 0 = 1 ∧ st_193 21 3 = 0 ∧ st_193 14 6 = 1 ∧ st_193 14 7 = 1 ∧ st_193 14 8 = 0 ∧ st_193 15 0 = 42 ∧ st_193 17 0 = -1 ∧ st_193 20 0 = 0 := by decide +kernel
theorem st_o : ∀ q : Nat, q < 6 → st_193 34 (q : Int) = q ∧ st_193 121 (q : Int) = q := by decide +kernel
theorem st_m : st_193 118 1 = 0 ∧ st_193 118 3 = 0 ∧ st_193 118 5 = 0 ∧ st_193 126 0 = 0 ∧ st_193 126 1 = 0 ∧ st_193 126 2 = 0 ∧ st_193 118 27 = -1 ∧ st_193 118 14 = 0 ∧ st_193 118 10 = 1 ∧ st_193 118 11 = 0 ∧ st_193 122 0 = 0 ∧ st_193 123 0 = 0 := by decide +kernel
theorem a0_q {q : Int} (a : 0 ≤ q) (b : q < 6) : a0S 10 q = q := by
  unfold a0S
  rw [if_neg (by omega), if_pos (by omega)]
theorem ic_0 : IC st_193 a0S := by
  obtain ⟨z0, z1, z2, z3, z4, z5, z6, z7, z8, z9⟩ := a0_z
  obtain ⟨t1, t2, t3, t4⟩ := a0_t
  obtain ⟨s1, s2, s3, s4, s5, s6, s7, s8, s9, s10, s11, s12, s13, s14, s15, s16, s17, s18, s19, s20, s21⟩ := st_c
  refine ⟨⟨by omega, fun u a b => by omega, fun t a b => Or.inl ⟨?_, fun v c d => by omega⟩⟩, ⟨by omega, fun u a b => by omega⟩, ⟨by omega, by omega, by omega, by omega, fun q a b => ?_, s11, s12, s13, s14⟩, ⟨by omega, fun u a b => by omega⟩, ⟨by omega, by omega, by omega, fun i a b => ?_⟩⟩
  · have : t = 0 ∨ t = 1 ∨ t = 2 ∨ t = 3 := by omega
    rcases this with rfl | rfl | rfl | rfl
    · exact s2
    · exact s3
    · exact s4
    · exact s5
  · have := (st_o q.toNat (by omega)).1
    rw [show ((q.toNat : Nat) : Int) = q by omega] at this
    rw [a0_q a b, this]
  · have e : i = 0 := by omega
    subst e
    rw [t1, t2, t3, s19, s20, s21]
    exact ⟨rfl, rfl, fun z => absurd rfl z, fun _ => rfl⟩
theorem im_0 : IM st_193 a0S := by
  obtain ⟨z0, z1, z2, z3, z4, z5, z6, z7, z8, z9⟩ := a0_z
  obtain ⟨t1, t2, t3, t4⟩ := a0_t
  obtain ⟨s1, s2, s3, s4, s5, s6, s7, s8, s9, s10, s11, s12⟩ := st_m
  refine ⟨⟨by omega, fun u w a b => by omega⟩, ⟨by omega, fun u w a b => by omega⟩, ⟨by omega, by omega, by omega, by omega, fun q a b => ?_, s7⟩, ⟨by omega, fun u a b => by omega⟩, ⟨by omega, by omega, fun i a b => ?_⟩⟩
  · have := (st_o q.toNat (by omega)).2
    rw [show ((q.toNat : Nat) : Int) = q by omega] at this
    rw [a0_q a b, this]
  · have e : i = 0 := by omega
    subst e
    rw [t1, t2, s11, s12]
    exact ⟨rfl, rfl, fun z => absurd rfl z⟩
end
section
/-! ===== the law ===== -/
theorem rdS_t {α : Type} {L : Nat} {xs : Nat → Int32} {i : Int} {k : Int → Option α} (h : 0 ≤ i ∧ i < L) : rdS L xs i k = k (xs i.toNat).toInt := if_pos h
theorem xs_r {z : Int32} : inR z.toInt := by
  have h1 := Int32.le_toInt z
  have h2 := Int32.toInt_lt z
  unfold inR
  omega
theorem cmp_r {z : Int} : cmpL z z = 0 := by
  unfold cmpL
  rw [if_neg (by omega), if_pos rfl]
theorem law_g {L : Nat} {xs : Nat → Int32} (hL : L ≤ 3584) : ∀ (n : Nat) (σ α : St) (x : Int), IC σ α → IM σ α → WF α → 0 ≤ x → x ≤ L → (L : Int) < x + 7 * n → ∃ τ, lp_L_law_18 L xs (fun σ231 => some (1, σ231)) n σ x = some (1, τ) := by
  intro n
  induction n with
  | zero =>
    intro σ α x hC hM hw h0 h1 h2
    omega
  | succ n ih =>
    intro σ α x hC hM hw h0 h1 h2
    rw [lp_L_law_18]
    by_cases c : (L : Int) - 7 < x
    · rw [iww_t (by omega)]
      exact ⟨σ, rfl⟩
    · rw [iww_f (by omega), rdS_t (by omega)]
      generalize wI (andI (xs x.toNat).toInt 31) = c

      by_cases d0 : c = 0
      · rw [if_pos d0, rdS_t (by omega), rdS_t (by omega), rdS_t (by omega), rdS_t (by omega), rdS_t (by omega), rdS_t (by omega)]
        obtain ⟨τ1, p1, p2, p3⟩ := xc_unit hC hw xs_r xs_r xs_r xs_r xs_r xs_r
        rw [p1, bd2_s, rdS_t (by omega), rdS_t (by omega), rdS_t (by omega), rdS_t (by omega), rdS_t (by omega), rdS_t (by omega)]
        obtain ⟨τ2, q1, q2, q3⟩ := xm_unit (IM_c p3 hM) hw xs_r xs_r xs_r xs_r xs_r xs_r
        rw [q1, bd2_s, if_pos rfl]
        exact ih τ2 _ (x + 7) (IC_c q3 p2) q2 (wf_unit hw) (by omega) (by omega) (by omega)
      rw [if_neg d0]
      by_cases d1 : c = 1
      · rw [if_pos d1, rdS_t (by omega), rdS_t (by omega), rdS_t (by omega)]
        obtain ⟨τ1, p1, p2, p3⟩ := xc_records hC hw xs_r xs_r xs_r
        rw [p1, bd2_s, rdS_t (by omega), rdS_t (by omega), rdS_t (by omega)]
        obtain ⟨τ2, q1, q2, q3⟩ := xm_records (IM_c p3 hM) hw xs_r xs_r xs_r
        rw [q1, bd2_s, if_pos rfl]
        exact ih τ2 _ (x + 7) (IC_c q3 p2) q2 (wf_rec hw) (by omega) (by omega) (by omega)
      rw [if_neg d1]
      by_cases d2 : c = 2
      · rw [if_pos d2, rdS_t (by omega), rdS_t (by omega)]
        obtain ⟨τ1, p1, p2, p3⟩ := xc_of hC hw xs_r xs_r
        rw [p1, bd2_s, rdS_t (by omega), rdS_t (by omega)]
        obtain ⟨τ2, q1, q2, q3⟩ := xm_of (IM_c p3 hM) hw xs_r xs_r
        rw [q1, bd2_s, if_pos rfl]
        exact ih τ2 _ (x + 7) (IC_c q3 p2) q2 (wf_of hw) (by omega) (by omega) (by omega)
      rw [if_neg d2]
      by_cases d3 : c = 3
      · rw [if_pos d3]
        obtain ⟨τ1, p1, p2, p3⟩ := xc_empties hC
        rw [p1, bd2_s]
        obtain ⟨τ2, q1, q2, q3⟩ := xm_empties (IM_c p3 hM)
        rw [q1, bd2_s, if_pos rfl]
        exact ih τ2 _ (x + 7) (IC_c q3 p2) q2 (wf_empties hw) (by omega) (by omega) (by omega)
      rw [if_neg d3]
      by_cases d4 : c = 4
      · rw [if_pos d4, rdS_t (by omega), rdS_t (by omega)]
        obtain ⟨τ1, p1, p2, p3⟩ := xc_other hC xs_r xs_r
        rw [p1, bd2_s, rdS_t (by omega), rdS_t (by omega)]
        obtain ⟨τ2, q1, q2, q3⟩ := xm_other (IM_c p3 hM) xs_r xs_r
        rw [q1, bd2_s, if_pos rfl]
        exact ih τ2 _ (x + 7) (IC_c q3 p2) q2 (wf_other hw) (by omega) (by omega) (by omega)
      rw [if_neg d4]
      by_cases d5 : c = 5
      · rw [if_pos d5, rdS_t (by omega)]
        obtain ⟨τ1, p1, p2, p3⟩ := xc_fitter hC hw xs_r
        rw [p1, bd2_s, rdS_t (by omega)]
        obtain ⟨τ2, q1, q2, q3⟩ := xm_fitter (IM_c p3 hM) hw xs_r
        rw [q1, bd2_s, if_pos rfl]
        exact ih τ2 _ (x + 7) (IC_c q3 p2) q2 (wf_fitter hw) (by omega) (by omega) (by omega)
      rw [if_neg d5]
      by_cases d6 : c = 6
      · rw [if_pos d6, rdS_t (by omega)]
        obtain ⟨τ1, p1, p2, p3⟩ := xc_type hC hw xs_r
        rw [p1, bd2_s, rdS_t (by omega)]
        obtain ⟨τ2, q1, q2, q3⟩ := xm_type (IM_c p3 hM) hw xs_r
        rw [q1, bd2_s, if_pos rfl]
        exact ih τ2 _ (x + 7) (IC_c q3 p2) q2 (wf_type hw) (by omega) (by omega) (by omega)
      rw [if_neg d6]
      by_cases d7 : c = 7
      · rw [if_pos d7]
        obtain ⟨τ1, p1, p2, p3⟩ := xc_clear hC
        rw [p1, bd2_s]
        obtain ⟨τ2, q1, q2, q3⟩ := xm_clear (IM_c p3 hM)
        rw [q1, bd2_s, if_pos rfl]
        exact ih τ2 _ (x + 7) (IC_c q3 p2) q2 (wf_clear hw) (by omega) (by omega) (by omega)
      rw [if_neg d7]
      by_cases d8 : c = 8
      · rw [if_pos d8]
        obtain ⟨⟨τ1, p1, p2, p3⟩, p4⟩ := xc_reads hC hw
        rw [p1, bd2_s]
        obtain ⟨τ2, q1, q2, q3⟩ := xm_reads (IM_c p3 hM) hw
        rw [q1, bd2_s, if_pos rfl]
        exact ih τ2 _ (x + 7) (IC_c q3 p2) q2 (wf_reads hw p4) (by omega) (by omega) (by omega)
      rw [if_neg d8]
      by_cases d9 : c = 9
      · rw [if_pos d9, rdS_t (by omega), rdS_t (by omega)]
        obtain ⟨τ1, p1, p2, p3⟩ := xc_target hC hw xs_r xs_r
        rw [p1, bd2_s, rdS_t (by omega), rdS_t (by omega)]
        obtain ⟨τ2, q1, q2, q3⟩ := xm_target (IM_c p3 hM) hw xs_r xs_r
        rw [q1, bd2_s, if_pos rfl]
        exact ih τ2 _ (x + 7) (IC_c q3 p2) q2 (wf_target hw) (by omega) (by omega) (by omega)
      rw [if_neg d9]
      by_cases d10 : c = 10
      · rw [if_pos d10, rdS_t (by omega)]
        obtain ⟨τ1, p1, p2, p3⟩ := xc_tree hC hw xs_r
        rw [p1, bd2_s, rdS_t (by omega)]
        obtain ⟨τ2, q1, q2, q3⟩ := xm_tree (IM_c p3 hM) hw xs_r
        rw [q1, bd2_s, if_pos rfl]
        exact ih τ2 _ (x + 7) (IC_c q3 p2) q2 (wf_tree hw) (by omega) (by omega) (by omega)
      rw [if_neg d10]
      by_cases d11 : c = 11
      · rw [if_pos d11, rdS_t (by omega), rdS_t (by omega)]
        obtain ⟨τ1, p1, p2, p3⟩ := xc_leaf hC hw xs_r xs_r
        rw [p1, bd2_s, rdS_t (by omega), rdS_t (by omega)]
        obtain ⟨τ2, q1, q2, q3⟩ := xm_leaf (IM_c p3 hM) hw xs_r xs_r
        rw [q1, bd2_s, if_pos rfl]
        exact ih τ2 _ (x + 7) (IC_c q3 p2) q2 (wf_leaf hw) (by omega) (by omega) (by omega)
      rw [if_neg d11]
      by_cases d12 : c = 12
      · rw [if_pos d12, rdS_t (by omega), rdS_t (by omega)]
        obtain ⟨τ1, p1, p2, p3⟩ := xc_choice hC hw xs_r xs_r
        rw [p1, bd2_s, rdS_t (by omega), rdS_t (by omega)]
        obtain ⟨τ2, q1, q2, q3⟩ := xm_choice (IM_c p3 hM) hw xs_r xs_r
        rw [q1, bd2_s, if_pos rfl]
        exact ih τ2 _ (x + 7) (IC_c q3 p2) q2 (wf_choice hw) (by omega) (by omega) (by omega)
      rw [if_neg d12]
      by_cases d13 : c = 13
      · rw [if_pos d13, rdS_t (by omega)]
        obtain ⟨τ1, p1, p2, p3⟩ := xc_steps hC hw xs_r
        rw [p1, bd2_s, rdS_t (by omega)]
        obtain ⟨τ2, q1, q2, q3⟩ := xm_steps (IM_c p3 hM) hw xs_r
        rw [q1, bd2_s, if_pos rfl]
        exact ih τ2 _ (x + 7) (IC_c q3 p2) q2 (wf_kt hw) (by omega) (by omega) (by omega)
      rw [if_neg d13]
      by_cases d14 : c = 14
      · rw [if_pos d14, rdS_t (by omega)]
        obtain ⟨τ1, p1, p2, p3⟩ := xc_tried hC hw xs_r
        rw [p1, bd2_s, rdS_t (by omega)]
        obtain ⟨τ2, q1, q2, q3⟩ := xm_tried (IM_c p3 hM) hw xs_r
        rw [q1, bd2_s, if_pos rfl]
        exact ih τ2 _ (x + 7) (IC_c q3 p2) q2 (wf_kt hw) (by omega) (by omega) (by omega)
      rw [if_neg d14]
      by_cases d15 : c = 15
      · rw [if_pos d15, rdS_t (by omega), rdS_t (by omega)]
        obtain ⟨τ1, p1, p2, p3⟩ := xc_fit hC hw xs_r xs_r
        rw [p1, bd2_s, rdS_t (by omega), rdS_t (by omega)]
        obtain ⟨τ2, q1, q2, q3⟩ := xm_fit (IM_c p3 hM) hw xs_r xs_r
        rw [q1, bd2_s, if_pos rfl]
        exact ih τ2 _ (x + 7) (IC_c q3 p2) q2 (wf_fit hw) (by omega) (by omega) (by omega)
      rw [if_neg d15]
      by_cases d16 : c = 16
      · rw [if_pos d16, rdS_t (by omega), rdS_t (by omega)]
        obtain ⟨τ1, p1, p2, p3⟩ := xc_joint hC hw xs_r xs_r
        rw [p1, bd2_s, rdS_t (by omega), rdS_t (by omega)]
        obtain ⟨τ2, q1, q2, q3⟩ := xm_joint (IM_c p3 hM) hw xs_r xs_r
        rw [q1, bd2_s, if_pos rfl]
        exact ih τ2 _ (x + 7) (IC_c q3 p2) q2 (wf_joint hw) (by omega) (by omega) (by omega)
      rw [if_neg d16]
      by_cases d17 : c = 17
      · rw [if_pos d17]
        obtain ⟨τ1, p1, p2, p3⟩ := xc_cost hC hw
        rw [p1, bd2_s]
        obtain ⟨τ2, q1, q2, q3⟩ := xm_cost (IM_c p3 hM) hw
        rw [q1, bd2_s, if_pos rfl]
        exact ih τ2 _ (x + 7) (IC_c q3 p2) q2 (wf_no hw) (by omega) (by omega) (by omega)
      rw [if_neg d17]
      by_cases d18 : c = 18
      · rw [if_pos d18, rdS_t (by omega)]
        obtain ⟨τ1, p1, p2, p3⟩ := xc_chain hC hw xs_r
        rw [p1, bd2_s, rdS_t (by omega)]
        obtain ⟨τ2, q1, q2, q3⟩ := xm_chain (IM_c p3 hM) hw xs_r
        rw [q1, bd2_s, if_pos rfl]
        exact ih τ2 _ (x + 7) (IC_c q3 p2) q2 (wf_chain hw) (by omega) (by omega) (by omega)
      rw [if_neg d18]
      by_cases d19 : c = 19
      · rw [if_pos d19]
        obtain ⟨τ1, p1, p2, p3⟩ := xc_ways hC hw
        rw [p1, bd2_s]
        obtain ⟨τ2, q1, q2, q3⟩ := xm_ways (IM_c p3 hM) hw
        rw [q1, bd2_s, if_pos rfl]
        exact ih τ2 _ (x + 7) (IC_c q3 p2) q2 (wf_no hw) (by omega) (by omega) (by omega)
      rw [if_neg d19]
      by_cases d20 : c = 20
      · rw [if_pos d20]
        obtain ⟨τ1, p1, p2, p3⟩ := xc_next hC hw
        rw [p1, bd2_s]
        obtain ⟨τ2, q1, q2, q3⟩ := xm_next (IM_c p3 hM) hw
        rw [q1, bd2_s, if_pos rfl]
        exact ih τ2 _ (x + 7) (IC_c q3 p2) q2 (wf_no hw) (by omega) (by omega) (by omega)
      rw [if_neg d20]
      by_cases d21 : c = 21
      · rw [if_pos d21]
        obtain ⟨τ1, p1, p2, p3⟩ := xc_dearest hC hw
        rw [p1, bd2_s]
        obtain ⟨τ2, q1, q2, q3⟩ := xm_dearest (IM_c p3 hM) hw
        rw [q1, bd2_s, if_pos rfl]
        exact ih τ2 _ (x + 7) (IC_c q3 p2) q2 (wf_no hw) (by omega) (by omega) (by omega)
      rw [if_neg d21]
      by_cases d22 : c = 22
      · rw [if_pos d22, rdS_t (by omega)]
        obtain ⟨τ1, p1, p2, p3⟩ := xc_without hC hw xs_r
        rw [p1, bd2_s, rdS_t (by omega)]
        obtain ⟨τ2, q1, q2, q3⟩ := xm_without (IM_c p3 hM) hw xs_r
        rw [q1, bd2_s, if_pos rfl]
        exact ih τ2 _ (x + 7) (IC_c q3 p2) q2 (wf_wo hw) (by omega) (by omega) (by omega)
      rw [if_neg d22]
      by_cases d23 : c = 23
      · rw [if_pos d23, rdS_t (by omega)]
        obtain ⟨τ1, p1, p2, p3⟩ := xc_about hC hw xs_r
        rw [p1, bd2_s, rdS_t (by omega)]
        obtain ⟨τ2, q1, q2, q3⟩ := xm_about (IM_c p3 hM) hw xs_r
        rw [q1, bd2_s, if_pos rfl]
        exact ih τ2 _ (x + 7) (IC_c q3 p2) q2 (wf_about hw) (by omega) (by omega) (by omega)
      rw [if_neg d23]
      by_cases d24 : c = 24
      · rw [if_pos d24, rdS_t (by omega)]
        obtain ⟨τ1, p1, p2, p3⟩ := xc_cheap hC hw xs_r
        rw [p1, bd2_s, rdS_t (by omega)]
        obtain ⟨τ2, q1, q2, q3⟩ := xm_cheap (IM_c p3 hM) hw xs_r
        rw [q1, bd2_s, if_pos rfl]
        exact ih τ2 _ (x + 7) (IC_c q3 p2) q2 (wf_cheap hw) (by omega) (by omega) (by omega)
      rw [if_neg d24]
      by_cases d25 : c = 25
      · rw [if_pos d25, rdS_t (by omega)]
        obtain ⟨τ1, p1, p2, p3⟩ := xc_told hC xs_r
        rw [p1, bd2_s, rdS_t (by omega)]
        obtain ⟨τ2, q1, q2, q3⟩ := xm_told (IM_c p3 hM) xs_r
        rw [q1, bd2_s, if_pos rfl]
        exact ih τ2 _ (x + 7) (IC_c q3 p2) q2 (wf_told hw) (by omega) (by omega) (by omega)
      rw [if_neg d25]
      by_cases d26 : c = 26
      · rw [if_pos d26]
        obtain ⟨τ1, p1, p2, p3⟩ := xc_digest hC hw
        rw [p1, bd2_s]
        obtain ⟨τ2, q1, q2, q3⟩ := xm_digest (IM_c p3 hM) hw
        rw [q1, bd2_s, if_pos cmp_r]
        exact ih τ2 _ (x + 7) (IC_c q3 p2) q2 hw (by omega) (by omega) (by omega)
      rw [if_neg d26]
      exact ih σ α (x + 7) hC hM hw (by omega) (by omega) (by omega)
theorem pure_law (L : Nat) (xs : Nat → Int32) (hL : L ≤ 3584) : ∃ σ' : St, f_L_law L xs st_193 = some (1, σ') :=
  law_g hL 600 st_193 a0S 0 ic_0 im_0 wf_0 (by omega) (by omega) (by omega)
end
