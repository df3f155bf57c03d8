/-! ===== pure: evaluation of the mirrors ===== -/
def inR (x : Int) : Prop := -2147483648 ≤ x ∧ x ≤ 2147483647
theorem rdA_t {α : Type} {n : Nat} {σ : St} {o i : Int} {k : Int → Option α} (h : 0 ≤ i ∧ i < n) : rdA n σ o i k = k (σ o i) := if_pos h
theorem wrA_t {α : Type} {n : Nat} {σ : St} {o i x : Int} {k : St → Option α} (h : 0 ≤ i ∧ i < n) : wrA n σ o i x k = k (upS σ o i x) := if_pos h
theorem ixA_t {α : Type} {n : Nat} {i : Int} {k : Option α} (h : 0 ≤ i ∧ i < n) : ixA n i k = k := if_pos h
theorem wrF_d {α : Type} {σ : St} {o i x : Int} {k : St → α} : wrF σ o i x k = k (upS σ o i x) := rfl
theorem bnd_d {α : Type} {a : Int} {k : Int → α} : bnd a k = k a := rfl
theorem bd2_s {α : Type} {r : Int} {σ : St} {k : Int → St → Option α} : bd2 (some (r, σ)) k = k r σ := rfl
theorem bd1_s {α : Type} {r : Int} {k : Int → Option α} : bd1 (some r) k = k r := rfl
theorem upS_h {σ : St} {o i x o' i' : Int} (h : o' = o ∧ i' = i) : upS σ o i x o' i' = x := if_pos h
theorem upS_o {σ : St} {o i x o' i' : Int} (h : ¬ o' = o) : upS σ o i x o' i' = σ o' i' := if_neg (fun q => h q.1)
theorem upS_i {σ : St} {o i x o' i' : Int} (h : ¬ i' = i) : upS σ o i x o' i' = σ o' i' := if_neg (fun q => h q.2)
theorem iww_t {α : Type} {x y : Int} {a b : α} (h : (-2147483648 ≤ x ∧ x ≤ 2147483647 ∧ -2147483648 ≤ y ∧ y ≤ 2147483647) ∧ x < y) : (if wI x < wI y then a else b) = a := by
  rw [wI_id h.1.1 h.1.2.1, wI_id h.1.2.2.1 h.1.2.2.2]; exact if_pos h.2
theorem iww_f {α : Type} {x y : Int} {a b : α} (h : (-2147483648 ≤ x ∧ x ≤ 2147483647 ∧ -2147483648 ≤ y ∧ y ≤ 2147483647) ∧ ¬ x < y) : (if wI x < wI y then a else b) = b := by
  rw [wI_id h.1.1 h.1.2.1, wI_id h.1.2.2.1 h.1.2.2.2]; exact if_neg h.2
theorem iwl_t {α : Type} {x y : Int} {a b : α} (h : (-2147483648 ≤ x ∧ x ≤ 2147483647) ∧ x < y) : (if wI x < y then a else b) = a := by
  rw [wI_id h.1.1 h.1.2]; exact if_pos h.2
theorem iwl_f {α : Type} {x y : Int} {a b : α} (h : (-2147483648 ≤ x ∧ x ≤ 2147483647) ∧ ¬ x < y) : (if wI x < y then a else b) = b := by
  rw [wI_id h.1.1 h.1.2]; exact if_neg h.2
theorem ilw_t {α : Type} {x y : Int} {a b : α} (h : (-2147483648 ≤ y ∧ y ≤ 2147483647) ∧ x < y) : (if x < wI y then a else b) = a := by
  rw [wI_id h.1.1 h.1.2]; exact if_pos h.2
theorem ilw_f {α : Type} {x y : Int} {a b : α} (h : (-2147483648 ≤ y ∧ y ≤ 2147483647) ∧ ¬ x < y) : (if x < wI y then a else b) = b := by
  rw [wI_id h.1.1 h.1.2]; exact if_neg h.2
theorem eww_t {α : Type} {x y : Int} {a b : α} (h : x = y) : (if wI x = wI y then a else b) = a := if_pos (by rw [h])
theorem eww_f {α : Type} {x y : Int} {a b : α} (h : (-2147483648 ≤ x ∧ x ≤ 2147483647 ∧ -2147483648 ≤ y ∧ y ≤ 2147483647) ∧ ¬ x = y) : (if wI x = wI y then a else b) = b := by
  rw [wI_id h.1.1 h.1.2.1, wI_id h.1.2.2.1 h.1.2.2.2]; exact if_neg h.2
theorem ewl_t {α : Type} {x y : Int} {a b : α} (h : (-2147483648 ≤ x ∧ x ≤ 2147483647) ∧ x = y) : (if wI x = y then a else b) = a := by
  rw [wI_id h.1.1 h.1.2]; exact if_pos h.2
theorem ewl_f {α : Type} {x y : Int} {a b : α} (h : (-2147483648 ≤ x ∧ x ≤ 2147483647) ∧ ¬ x = y) : (if wI x = y then a else b) = b := by
  rw [wI_id h.1.1 h.1.2]; exact if_neg h.2
theorem il_t {α : Type} {x y : Int} {a b : α} (h : x < y) : (if x < y then a else b) = a := if_pos h
theorem il_f {α : Type} {x y : Int} {a b : α} (h : ¬ x < y) : (if x < y then a else b) = b := if_neg h
theorem ez_t {α : Type} {x y : Int} {a b : α} (h : x = y) : (if x = y then a else b) = a := if_pos h
theorem ez_f {α : Type} {x y : Int} {a b : α} (h : ¬ x = y) : (if x = y then a else b) = b := if_neg h
/-! small functions -/
theorem within_t {a b c : Int} (h : (-2147483648 ≤ b ∧ c ≤ 2147483647) ∧ b ≤ a ∧ a ≤ c) : f_X9_within a b c = 1 := by
  unfold f_X9_within
  rw [wI_id (x := a) (by omega) (by omega), wI_id (x := b) (by omega) (by omega), wI_id (x := c) (by omega) (by omega), if_neg (by omega), if_neg (by omega)]
theorem within_f {a b c : Int} (h : (-2147483648 ≤ a ∧ a ≤ 2147483647) ∧ (-2147483648 ≤ b ∧ b ≤ 2147483647) ∧ (-2147483648 ≤ c ∧ c ≤ 2147483647) ∧ ¬ (b ≤ a ∧ a ≤ c)) : f_X9_within a b c = 0 := by
  unfold f_X9_within
  rw [wI_id (x := a) (by omega) (by omega), wI_id (x := b) (by omega) (by omega), wI_id (x := c) (by omega) (by omega)]
  by_cases h1 : a < b
  · rw [if_pos h1]
  · rw [if_neg h1, if_pos (by omega)]
theorem cmpL_lt {a b : Int} (h : (-2147483648 ≤ a ∧ a ≤ 2147483647) ∧ (-2147483648 ≤ b ∧ b ≤ 2147483647)) : cmpL (i2lI a) b = if b < a then 1 else if a = b then 0 else -1 := by
  unfold cmpL i2lI
  rw [wI_id h.1.1 h.1.2, wL_id (x := a) (by omega) (by omega), wL_id (x := b) (by omega) (by omega)]
theorem in_t {a b c : Int} (h : (-2147483648 ≤ b ∧ c ≤ 2147483647) ∧ b ≤ a ∧ a ≤ c) : f_X10_in (i2lI a) b c = 1 := by
  unfold f_X10_in
  rw [cmpL_lt ⟨by omega, by omega⟩, cmpL_lt ⟨by omega, by omega⟩]
  have h1 : ¬ (if b < a then (1 : Int) else if a = b then 0 else -1) < 0 := by
    by_cases q : b < a
    · rw [if_pos q]; omega
    · rw [if_neg q, if_pos (by omega)]; omega
  have h2 : ¬ 0 < (if c < a then (1 : Int) else if a = c then 0 else -1) := by
    rw [if_neg (by omega)]
    by_cases q : a = c
    · rw [if_pos q]; omega
    · rw [if_neg q]; omega
  rw [if_neg h1, if_neg h2]
theorem in_f {a b c : Int} (h : (-2147483648 ≤ a ∧ a ≤ 2147483647) ∧ (-2147483648 ≤ b ∧ b ≤ 2147483647) ∧ (-2147483648 ≤ c ∧ c ≤ 2147483647) ∧ ¬ (b ≤ a ∧ a ≤ c)) : f_X10_in (i2lI a) b c = 0 := by
  unfold f_X10_in
  rw [cmpL_lt ⟨h.1, h.2.1⟩, cmpL_lt ⟨h.1, h.2.2.1⟩]
  by_cases q : a < b
  · rw [if_pos]
    rw [if_neg (by omega), if_neg (by omega)]; omega
  · by_cases q2 : b < a
    · rw [if_neg (by rw [if_pos q2]; omega), if_pos]
      rw [if_pos (by omega)]; omega
    · rw [if_neg (by rw [if_neg q2, if_pos (by omega)]; omega), if_pos]
      rw [if_pos (by omega)]; omega
theorem i2l_r {a : Int} (h : -2147483648 ≤ a ∧ a ≤ 2147483647) : i2lI a = a := wI_id h.1 h.2
theorem in_t2 {a b c : Int} (h : (-2147483648 ≤ b ∧ b ≤ 2147483647 ∧ -2147483648 ≤ c ∧ c ≤ 2147483647) ∧ b ≤ a ∧ a ≤ c) : f_X10_in (i2lI a) b (i2lI c) = 1 := by
  rw [i2l_r (a := c) (by omega)]; exact in_t (by omega)
theorem in_f2 {a b c : Int} (h : (-2147483648 ≤ a ∧ a ≤ 2147483647) ∧ (-2147483648 ≤ b ∧ b ≤ 2147483647) ∧ (-2147483648 ≤ c ∧ c ≤ 2147483647) ∧ ¬ (b ≤ a ∧ a ≤ c)) : f_X10_in (i2lI a) b (i2lI c) = 0 := by
  rw [i2l_r (a := c) (by omega)]; exact in_f (by omega)
theorem in_t3 {a b c : Int} (h : (-2147483648 ≤ b ∧ b ≤ 2147483647 ∧ -2147483648 ≤ c ∧ c ≤ 2147483647) ∧ b ≤ a ∧ a ≤ c) : f_X10_in (i2lI a) (i2lI b) (i2lI c) = 1 := by
  rw [i2l_r (a := b) (by omega)]; exact in_t2 (by omega)
theorem in_f3 {a b c : Int} (h : (-2147483648 ≤ a ∧ a ≤ 2147483647) ∧ (-2147483648 ≤ b ∧ b ≤ 2147483647) ∧ (-2147483648 ≤ c ∧ c ≤ 2147483647) ∧ ¬ (b ≤ a ∧ a ≤ c)) : f_X10_in (i2lI a) (i2lI b) (i2lI c) = 0 := by
  rw [i2l_r (a := b) (by omega)]; exact in_f2 (by omega)
theorem max_e {a b : Int} (h : -2147483648 ≤ a ∧ a ≤ 2147483647 ∧ -2147483648 ≤ b ∧ b ≤ 2147483647) : f_J9_max_7cf53 a b = if a < b then b else a := by
  unfold f_J9_max_7cf53
  rw [wI_id (x := a) (by omega) (by omega), wI_id (x := b) (by omega) (by omega)]
theorem min_e {a b : Int} (h : -2147483648 ≤ a ∧ a ≤ 2147483647 ∧ -2147483648 ≤ b ∧ b ≤ 2147483647) : f_J9_min_7cf53 a b = if b < a then b else a := by
  unfold f_J9_min_7cf53
  rw [wI_id (x := a) (by omega) (by omega), wI_id (x := b) (by omega) (by omega)]
theorem abs_e {a : Int} (h : -2147483648 ≤ a ∧ a ≤ 2147483647) : f_J9_abs_0f7a4 a = if a < 0 then 0 - a else a := by
  unfold f_J9_abs_0f7a4
  rw [wI_id (x := a) (by omega) (by omega)]
theorem far_e {a b : Int} (h : -2147483648 ≤ a ∧ a ≤ 2147483647 ∧ -2147483648 ≤ b ∧ b ≤ 2147483647) : f_X10_far a b = if b < a then a - b else b - a := by
  unfold f_X10_far
  rw [wI_id (x := a) (by omega) (by omega), wI_id (x := b) (by omega) (by omega)]
/-! ===== the abstract store, and how each side holds it ===== -/
/-- the next unit of the same take -/
def isNxt (α : St) (u r : Int) : Prop := (r = -1 ∧ ∀ v, u < v → v < α 0 0 → α 6 v ≠ α 6 u) ∨ (u < r ∧ r < α 0 0 ∧ α 6 r = α 6 u ∧ ∀ v, u < v → v < r → α 6 v ≠ α 6 u)
/-- the last unit of a take -/
def isLst (α : St) (t r : Int) : Prop := (r = -1 ∧ ∀ v, 0 ≤ v → v < α 0 0 → α 6 v ≠ t) ∨ (0 ≤ r ∧ r < α 0 0 ∧ α 6 r = t ∧ ∀ v, r < v → v < α 0 0 → α 6 v ≠ t)
/-- a node's letter -/
def ltC (q : Int) : Int := if q = 0 then 42 else if q = 1 then 76 else if q = 2 then 82 else if q = 3 then 80 else 68
def cU (σ α : St) : Prop := σ 1 8 = α 0 0 ∧ (∀ u, 0 ≤ u → u < α 0 0 → σ 2 u = α 1 u ∧ σ 3 u = α 2 u ∧ σ 4 u = α 3 u ∧ σ 5 u = α 4 u ∧ σ 6 u = α 5 u ∧ σ 7 u = α 6 u ∧ isNxt α u (σ 8 u)) ∧ ∀ t, 0 ≤ t → t < 4 → isLst α t (σ 9 t)
def cR (σ α : St) : Prop := σ 10 3 = α 0 1 ∧ ∀ k, 0 ≤ k → k < α 0 1 → σ 11 k = α 7 k ∧ σ 12 k = α 8 k ∧ σ 13 k = α 9 k
def cK (σ α : St) : Prop := σ 0 8 = α 0 2 ∧ σ 0 9 = α 0 3 ∧ σ 0 10 = α 0 4 ∧ σ 0 11 = α 0 5 ∧ (∀ q, 0 ≤ q → q < 6 → σ 34 q = α 10 q) ∧ σ 64 0 = 0 ∧ σ 65 0 = 1000000 ∧ σ 66 0 = 0 ∧ σ 67 0 = 1
def cX (σ α : St) : Prop := σ 21 3 = α 0 6 ∧ ∀ i, 0 ≤ i → i < α 0 6 → σ 22 i = α 11 i
def cT (σ α : St) : Prop := σ 14 6 = α 0 7 ∧ σ 14 7 = α 0 8 ∧ σ 14 8 = α 0 9 ∧ ∀ i, 0 ≤ i → i < α 0 7 → σ 15 i = ltC (α 12 i) ∧ σ 17 i = α 16 i ∧ (α 12 i ≠ 0 → σ 16 i = α 13 i ∧ σ 18 i = α 14 i ∧ σ 19 i = α 15 i) ∧ (α 12 i = 0 → σ 20 i = α 13 i)
def mU (σ α : St) : Prop := σ 118 1 = α 0 0 ∧ ∀ u w, 0 ≤ u → u < α 0 0 → 0 ≤ w → w < 6 → σ 119 (6 * u + w) = α (1 + w) u
def mR (σ α : St) : Prop := σ 118 3 = α 0 1 ∧ ∀ k w, 0 ≤ k → k < α 0 1 → 0 ≤ w → w < 3 → σ 120 (3 * k + w) = α (7 + w) k
def mK (σ α : St) : Prop := σ 118 5 = α 0 2 ∧ σ 126 0 = α 0 3 ∧ σ 126 1 = α 0 4 ∧ σ 126 2 = α 0 5 ∧ (∀ q, 0 ≤ q → q < 6 → σ 121 q = α 10 q) ∧ σ 118 27 = -1
def mX (σ α : St) : Prop := σ 118 14 = α 0 6 ∧ ∀ i, 0 ≤ i → i < α 0 6 → σ 127 i = α 11 i
def mT (σ α : St) : Prop := σ 118 10 = α 0 8 ∧ σ 118 11 = α 0 9 ∧ ∀ i, 0 ≤ i → i < α 0 7 → σ 122 i = α 12 i ∧ σ 123 i = α 13 i ∧ (α 12 i ≠ 0 → σ 124 i = α 14 i ∧ σ 125 i = α 15 i)
def wU (α : St) : Prop := 0 ≤ α 0 0 ∧ α 0 0 ≤ 40 ∧ ∀ u, 0 ≤ u → u < α 0 0 → (0 ≤ α 1 u ∧ α 1 u ≤ 5) ∧ (0 ≤ α 2 u ∧ α 2 u ≤ 6) ∧ (0 ≤ α 3 u ∧ α 3 u ≤ 6) ∧ (0 ≤ α 4 u ∧ α 4 u ≤ 9) ∧ (1 ≤ α 5 u ∧ α 5 u ≤ 9) ∧ (0 ≤ α 6 u ∧ α 6 u ≤ 3)
def wR (α : St) : Prop := 0 ≤ α 0 1 ∧ α 0 1 ≤ 8 ∧ ∀ k, 0 ≤ k → k < α 0 1 → (0 ≤ α 7 k ∧ α 7 k ≤ 5) ∧ (0 ≤ α 8 k ∧ α 8 k ≤ 9) ∧ (1 ≤ α 9 k ∧ α 9 k ≤ 9)
def wK (α : St) : Prop := (0 ≤ α 0 2 ∧ α 0 2 ≤ 4) ∧ ∀ q, 0 ≤ q → q < 6 → 0 ≤ α 10 q ∧ α 10 q ≤ 5
def wX (α : St) : Prop := 0 ≤ α 0 6 ∧ α 0 6 ≤ 120 ∧ ∀ i, 0 ≤ i → i < α 0 6 → 0 ≤ α 11 i ∧ α 11 i ≤ 127
/-- a tree: kinds, figures, branches behind their node, what is above, how deep -/
def wT (α : St) : Prop := (1 ≤ α 0 7 ∧ α 0 7 ≤ 120) ∧ (1 ≤ α 0 8 ∧ α 0 8 ≤ 24) ∧ (0 ≤ α 0 9 ∧ α 0 9 ≤ 7) ∧ α 16 0 = -1 ∧ α 17 0 = 0 ∧ ∀ i, 0 ≤ i → i < α 0 7 → (0 ≤ α 12 i ∧ α 12 i ≤ 4) ∧ (0 ≤ α 17 i ∧ α 17 i ≤ 7) ∧ (α 12 i = 0 → 0 ≤ α 13 i ∧ α 13 i < α 0 8) ∧ (α 12 i ≠ 0 → (0 ≤ α 13 i ∧ α 13 i ≤ 9) ∧ (i < α 14 i ∧ α 14 i < α 0 7) ∧ (i < α 15 i ∧ α 15 i < α 0 7) ∧ α 14 i ≠ α 15 i ∧ α 16 (α 14 i) = i ∧ α 16 (α 15 i) = i ∧ α 17 (α 14 i) = α 17 i + 1 ∧ α 17 (α 15 i) = α 17 i + 1)
def IC (σ α : St) : Prop := cU σ α ∧ cR σ α ∧ cK σ α ∧ cX σ α ∧ cT σ α
def IM (σ α : St) : Prop := mU σ α ∧ mR σ α ∧ mK σ α ∧ mX σ α ∧ mT σ α
def WF (α : St) : Prop := wU α ∧ wR α ∧ wK α ∧ wX α ∧ wT α
