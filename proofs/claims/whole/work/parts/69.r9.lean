/-! ===== tree ===== -/
theorem sh1_n : ∀ k : Nat, k < 24 → shlL 1 (k : Int) = ((2 ^ k : Nat) : Int) := by decide +kernel
theorem lfn_r {α : St} {u : Int} (hw : wT α) : 0 ≤ α 13 (lfU α u) ∧ α 13 (lfU α u) < α 0 8 := by
  have p := lfU_p (u := u) hw
  exact (hw.2.2.2.2.2 (lfU α u) p.1 p.2.1).2.2.1 p.2.2
def mkU (α : St) : Nat → Nat
  | 0 => 0
  | u + 1 => mkU α u ||| 2 ^ (α 13 (lfU α u)).toNat
theorem mkU_lt {α : St} (hw : wT α) : ∀ n : Nat, mkU α n < 2 ^ (α 0 8).toNat := by
  intro n
  induction n with
  | zero => exact Nat.two_pow_pos _
  | succ n ih =>
    have q := lfn_r (u := (n : Int)) hw
    rw [mkU]
    exact Nat.or_lt_two_pow ih (Nat.pow_lt_pow_right (by omega) (by omega))
theorem mkU_24 {α : St} (hw : wT α) (n : Nat) : mkU α n < 16777216 := by
  have h := mkU_lt hw n
  have w := hw.2.1.2
  have g : 2 ^ (α 0 8).toNat ≤ 2 ^ 24 := Nat.pow_le_pow_right (by omega) (by omega)
  exact Nat.lt_of_lt_of_le h g
def ihU (α : St) (l : Int) : Nat → Int
  | 0 => 0
  | u + 1 => if ihU α l u = 0 then (if α 13 (lfU α u) = l then 1 else 0) else 1
theorem ihU_t {α : St} {l : Int} (hw : wT α) (hl : 0 ≤ l) : ∀ n : Nat, (ihU α l n = 1 ∧ (mkU α n).testBit l.toNat = true) ∨ (ihU α l n = 0 ∧ (mkU α n).testBit l.toNat = false) := by
  intro n
  induction n with
  | zero => exact Or.inr ⟨rfl, Nat.zero_testBit _⟩
  | succ n ih =>
    have q := lfn_r (u := (n : Int)) hw
    rw [ihU, mkU, Nat.testBit_or, Nat.testBit_two_pow]
    rcases ih with ⟨i1, i2⟩ | ⟨i1, i2⟩
    · left
      rw [i1, if_neg (by omega), i2, Bool.true_or]
      exact ⟨rfl, rfl⟩
    · rw [i1, if_pos rfl, i2, Bool.false_or]
      by_cases c : α 13 (lfU α n) = l
      · left
        rw [if_pos c, decide_eq_true (by rw [c])]
        exact ⟨rfl, rfl⟩
      · right
        rw [if_neg c, decide_eq_false (by omega)]
        exact ⟨rfl, rfl⟩
def emG (α : St) : Nat → Int
  | 0 => 0
  | l + 1 => emG α l + (if ihU α l (α 0 0).toNat = 0 then 1 else 0)
theorem emG_e {α : St} (hw : wT α) : ∀ l : Nat, emG α l = (l : Int) - ((bS (mkU α (α 0 0).toNat) l : Nat) : Int) := by
  intro l
  induction l with
  | zero => rfl
  | succ l ih =>
    rw [emG, bS, ih]
    rcases ihU_t (l := (l : Int)) hw (by omega) (α 0 0).toNat with ⟨i1, i2⟩ | ⟨i1, i2⟩
    · rw [i1, show ((l : Int)).toNat = l by omega] at *
      rw [if_neg (show ¬ (1 : Int) = 0 by omega), if_pos i2]
      omega
    · rw [i1, if_pos rfl]
      rw [show ((l : Int)).toNat = l by omega] at i2
      rw [i2, if_neg (by decide)]
      omega
theorem bS_top {x L : Nat} (hx : x < 2 ^ L) : ∀ m : Nat, bS x (L + m) = bS x L := by
  intro m
  induction m with
  | zero => rfl
  | succ m ih =>
    rw [show L + (m + 1) = (L + m) + 1 by omega, bS, ih, Nat.testBit_lt_two_pow (Nat.lt_of_lt_of_le hx (Nat.pow_le_pow_right (by omega) (by omega)))]
    rfl
theorem em_fin {α : St} (hw : wT α) : emG α (α 0 8).toNat = α 0 8 - ((bS (mkU α (α 0 0).toNat) 24 : Nat) : Int) := by
  have w := hw.2.1
  have h := bS_top (mkU_lt hw (α 0 0).toNat) (24 - (α 0 8).toNat)
  rw [show (α 0 8).toNat + (24 - (α 0 8).toNat) = 24 by omega] at h
  rw [emG_e hw, h]
  omega
theorem c_el {σ α : St} (kx : Int → Option Int) (h : IC σ α) (hw : WF α) : ∀ (r x n : Nat), (x : Int) + r = α 0 0 → r < n → lp_X9_emptyLeaves_4 σ kx n (mkU α x : Nat) x = kx ((mkU α (x + r) : Nat) : Int) := by
  intro r
  have w3 := hw.1.2.1
  have w4 := hw.2.2.2.2.2.1.2
  have hs := h.1.1
  induction r with
  | zero =>
    intro x n h1 hn
    obtain ⟨n, rfl⟩ : ∃ k, n = k + 1 := ⟨n - 1, by omega⟩
    rw [lp_X9_emptyLeaves_4, iww_f (by omega)]; rfl
  | succ r ih =>
    intro x n h1 hn
    obtain ⟨n, rfl⟩ : ∃ k, n = k + 1 := ⟨n - 1, by omega⟩
    have g := ih (x + 1) n (by omega) (by omega)
    have p := lfU_p (u := (x : Int)) hw.2.2.2.2
    have q := lfn_r (u := (x : Int)) hw.2.2.2.2
    have e1 := c_lfU h hw (u := (x : Int)) (by omega) (by omega)
    have e2 := c_num h.2.2.2.2 hw.2.2.2.2 p.1 p.2.1 p.2.2
    have e3 := sh1_n (α 13 (lfU α x)).toNat (by omega)
    rw [show (((α 13 (lfU α x)).toNat : Nat) : Int) = α 13 (lfU α x) by omega] at e3
    have m1 := mkU_24 hw.2.2.2.2 x
    have m2 : 2 ^ (α 13 (lfU α x)).toNat < 16777216 := Nat.pow_lt_pow_right (m := (α 13 (lfU α x)).toNat) (n := 24) (by omega) (by omega)
    rw [show x + 1 + r = x + (r + 1) by omega, show ((x + 1 : Nat) : Int) = (x : Int) + 1 by omega, show mkU α (x + 1) = mkU α x ||| 2 ^ (α 13 (lfU α x)).toNat from rfl] at g
    rw [lp_X9_emptyLeaves_4, iww_t (by omega), e1, bd1_s, e2, bd1_s, bnd_d, e3, orL_n m1 m2]
    exact g
theorem m_el_17 {σ α : St} {l z : Int} (kx : Int → Option Int) (h : IM σ α) (hw : WF α) (hl : 0 ≤ l ∧ l ≤ 100) : ∀ (r x n : Nat), (x : Int) + r = α 0 0 → r < n → lp_X10_emptyLeaves_17 σ z l kx n (ihU α l x) x = kx (ihU α l (x + r)) := by
  intro r
  have w3 := hw.1.2.1
  have w4 := hw.2.2.2.2.2.1.2
  have hs := h.1.1
  induction r with
  | zero =>
    intro x n h1 hn
    obtain ⟨n, rfl⟩ : ∃ k, n = k + 1 := ⟨n - 1, by omega⟩
    rw [lp_X10_emptyLeaves_17, iww_f (by omega)]; rfl
  | succ r ih =>
    intro x n h1 hn
    obtain ⟨n, rfl⟩ : ∃ k, n = k + 1 := ⟨n - 1, by omega⟩
    have g := ih (x + 1) n (by omega) (by omega)
    have q := lfn_r (u := (x : Int)) hw.2.2.2.2
    have e1 := m_lfU (JM_of h) hw (u := (x : Int)) (by omega) (by omega)
    rw [show x + 1 + r = x + (r + 1) by omega, show ((x + 1 : Nat) : Int) = (x : Int) + 1 by omega, show ihU α l (x + 1) = (if ihU α l x = 0 then (if α 13 (lfU α x) = l then 1 else 0) else 1) from rfl] at g
    rcases ihU_t hw.2.2.2.2 hl.1 x with ⟨i1, _⟩ | ⟨i1, _⟩
    · rw [i1, if_neg (by omega)] at g
      rw [lp_X10_emptyLeaves_17, iww_t (by omega), i1, ewl_f (by omega)]
      exact g
    · rw [i1, if_pos rfl] at g
      rw [lp_X10_emptyLeaves_17, iww_t (by omega), i1, ewl_t (by omega), e1, bd1_s, bnd_d, wI_id (x := α 13 (lfU α x)) (by omega) (by omega), wI_id (x := l) (by omega) (by omega)]
      exact g
theorem m_el_4 {σ α : St} (kx : Int → Option Int) (h : IM σ α) (hw : WF α) : ∀ (r x n : Nat), (x : Int) + r = α 0 8 → r < n → lp_X10_emptyLeaves_4 σ kx n (emG α x) x = kx (emG α (x + r)) := by
  intro r
  have w3 := hw.1.2.1
  have w5 := hw.1.1
  have w4 := hw.2.2.2.2.2.1.2
  have hs := h.2.2.2.2.1
  induction r with
  | zero =>
    intro x n h1 hn
    obtain ⟨n, rfl⟩ : ∃ k, n = k + 1 := ⟨n - 1, by omega⟩
    rw [lp_X10_emptyLeaves_4, iww_f (by omega)]; rfl
  | succ r ih =>
    intro x n h1 hn
    obtain ⟨n, rfl⟩ : ∃ k, n = k + 1 := ⟨n - 1, by omega⟩
    have g := ih (x + 1) n (by omega) (by omega)
    have e := m_el_17 (l := (x : Int)) (z := emG α x) (fun y8 => bnd (emG α x + (if wI y8 = 0 then 1 else 0)) fun v10 => lp_X10_emptyLeaves_4 σ kx n v10 ((x : Int) + 1)) h hw (by omega) (α 0 0).toNat 0 1000 (by omega) (by omega)
    rw [show (((0 : Nat)) : Int) = 0 from rfl, show ihU α (x : Int) 0 = 0 from rfl, Nat.zero_add] at e
    rw [show x + 1 + r = x + (r + 1) by omega, show ((x + 1 : Nat) : Int) = (x : Int) + 1 by omega, show emG α (x + 1) = emG α x + (if ihU α x (α 0 0).toNat = 0 then 1 else 0) from rfl] at g
    rw [lp_X10_emptyLeaves_4, iww_t (by omega), e, bnd_d]
    rcases ihU_t (l := (x : Int)) hw.2.2.2.2 (by omega) (α 0 0).toNat with ⟨i1, _⟩ | ⟨i1, _⟩
    · rw [i1] at g ⊢
      rw [if_neg (show ¬ (1 : Int) = 0 by omega)] at g
      rw [ewl_f (by omega)]
      exact g
    · rw [i1] at g ⊢
      rw [if_pos rfl] at g
      rw [ewl_t (by omega)]
      exact g
def rTre (α : St) (a : Int) : Int := if a = 0 then α 0 8 else if a = 1 then α 0 9 else if a = 2 then emG α (α 0 8).toNat else -2
def aTre (α : St) (a : Int) : St := if 0 ≤ a ∧ a ≤ 2 then α else aR α 3
theorem wf_tree {α : St} {a : Int} (hw : WF α) : WF (aTre α a) := by
  unfold aTre
  by_cases c : 0 ≤ a ∧ a ≤ 2
  · rw [if_pos c]; exact hw
  · rw [if_neg c]; exact WF_aR 3 (by omega) hw
theorem xc_tree {σ α : St} {a : Int} (h : IC σ α) (hw : WF α) (ha : inR a) : oC (f_X9_tree σ a) σ α (rTre α a) (aTre α a) := by
  unfold inR at ha
  have w5 := hw.1.1
  have w3 := hw.1.2.1
  have t1 : σ 14 7 = α 0 8 := h.2.2.2.2.2.1
  have t2 : σ 14 8 = α 0 9 := h.2.2.2.2.2.2.1
  unfold f_X9_tree rTre aTre
  by_cases c : 0 ≤ a ∧ a ≤ 2
  · rw [if_pos c]
    have : a = 0 ∨ a = 1 ∨ a = 2 := by omega
    rcases this with rfl | rfl | rfl
    · simp (disch := omega) only [↓rdA_t, ↓wrA_t, ↓ixA_t, ↓wrF_d, ↓bd2_s, ↓bd1_s, ↓bnd_d, ↓iww_t, ↓iww_f, ↓iwl_t, ↓iwl_f, ↓ilw_t, ↓ilw_f, ↓eww_t, ↓eww_f, ↓ewl_t, ↓ewl_f, ↓ez_t, ↓ez_f, ↓il_t, ↓il_f, il_t, il_f, ez_t, ez_f, if_true, if_false, upS_h, upS_o, upS_i, Int.reduceAdd, Int.reduceSub, Int.reduceMul, Int.reduceNeg, wI_id, t1]
      exact ⟨σ, rfl, h, fun _ _ => rfl⟩
    · simp (disch := omega) only [↓rdA_t, ↓wrA_t, ↓ixA_t, ↓wrF_d, ↓bd2_s, ↓bd1_s, ↓bnd_d, ↓iww_t, ↓iww_f, ↓iwl_t, ↓iwl_f, ↓ilw_t, ↓ilw_f, ↓eww_t, ↓eww_f, ↓ewl_t, ↓ewl_f, ↓ez_t, ↓ez_f, ↓il_t, ↓il_f, il_t, il_f, ez_t, ez_f, if_true, if_false, upS_h, upS_o, upS_i, Int.reduceAdd, Int.reduceSub, Int.reduceMul, Int.reduceNeg, wI_id, t2]
      exact ⟨σ, rfl, h, fun _ _ => rfl⟩
    · have e := c_el (fun y5 => some ((σ 14 7) - (f_J13_bitCount_95d88 y5))) h hw (α 0 0).toNat 0 1000 (by omega) (by omega)
      rw [show (((0 : Nat)) : Int) = 0 from rfl, show mkU α 0 = 0 from rfl, show (((0 : Nat)) : Int) = 0 from rfl, Nat.zero_add, pop_n (mkU_24 hw.2.2.2.2 _), t1, ← em_fin hw.2.2.2.2] at e
      unfold f_X9_emptyLeaves
      rw [ewl_f (by omega), ewl_f (by omega), ewl_t (by omega), t1, e, bd1_s, if_neg (by omega), if_neg (by omega), if_pos rfl]
      exact ⟨σ, rfl, h, fun _ _ => rfl⟩
  · rw [if_neg c]
    simp (disch := omega) only [↓rdA_t, ↓wrA_t, ↓ixA_t, ↓wrF_d, ↓bd2_s, ↓bd1_s, ↓bnd_d, ↓iww_t, ↓iww_f, ↓iwl_t, ↓iwl_f, ↓ilw_t, ↓ilw_f, ↓eww_t, ↓eww_f, ↓ewl_t, ↓ewl_f, ↓ez_t, ↓ez_f, ↓il_t, ↓il_f, il_t, il_f, ez_t, ez_f, if_true, if_false, upS_h, upS_o, upS_i, Int.reduceAdd, Int.reduceSub, Int.reduceMul, Int.reduceNeg, wI_id]
    exact oC_id (oC_bad h)
theorem xm_tree {σ α : St} {a : Int} (h : IM σ α) (hw : WF α) (ha : inR a) : oM (f_X10_tree σ a) σ α (rTre α a) (aTre α a) := by
  unfold inR at ha
  have w5 := hw.2.2.2.2.2.1
  have t1 : σ 118 10 = α 0 8 := h.2.2.2.2.1
  have t2 : σ 118 11 = α 0 9 := h.2.2.2.2.2.1
  unfold f_X10_tree rTre aTre
  by_cases c : 0 ≤ a ∧ a ≤ 2
  · rw [if_pos c]
    have : a = 0 ∨ a = 1 ∨ a = 2 := by omega
    rcases this with rfl | rfl | rfl
    · simp (disch := omega) only [↓rdA_t, ↓wrA_t, ↓ixA_t, ↓wrF_d, ↓bd2_s, ↓bd1_s, ↓bnd_d, ↓iww_t, ↓iww_f, ↓iwl_t, ↓iwl_f, ↓ilw_t, ↓ilw_f, ↓eww_t, ↓eww_f, ↓ewl_t, ↓ewl_f, ↓ez_t, ↓ez_f, ↓il_t, ↓il_f, il_t, il_f, ez_t, ez_f, if_true, if_false, upS_h, upS_o, upS_i, Int.reduceAdd, Int.reduceSub, Int.reduceMul, Int.reduceNeg, wI_id, in_t, t1]
      exact ⟨σ, rfl, h, fun _ _ => rfl⟩
    · simp (disch := omega) only [↓rdA_t, ↓wrA_t, ↓ixA_t, ↓wrF_d, ↓bd2_s, ↓bd1_s, ↓bnd_d, ↓iww_t, ↓iww_f, ↓iwl_t, ↓iwl_f, ↓ilw_t, ↓ilw_f, ↓eww_t, ↓eww_f, ↓ewl_t, ↓ewl_f, ↓ez_t, ↓ez_f, ↓il_t, ↓il_f, il_t, il_f, ez_t, ez_f, if_true, if_false, upS_h, upS_o, upS_i, Int.reduceAdd, Int.reduceSub, Int.reduceMul, Int.reduceNeg, wI_id, in_t, t2]
      exact ⟨σ, rfl, h, fun _ _ => rfl⟩
    · have e := m_el_4 (fun y12 => some y12) h hw (α 0 8).toNat 0 1000 (by omega) (by omega)
      rw [show (((0 : Nat)) : Int) = 0 from rfl, show emG α 0 = 0 from rfl, Nat.zero_add] at e
      unfold f_X10_emptyLeaves
      rw [in_t (by omega), if_neg (by omega), ewl_f (by omega), ewl_f (by omega), e, bd1_s, if_neg (by omega), if_neg (by omega), if_pos rfl]
      exact ⟨σ, rfl, h, fun _ _ => rfl⟩
  · rw [if_neg c]
    simp (disch := omega) only [↓rdA_t, ↓wrA_t, ↓ixA_t, ↓wrF_d, ↓bd2_s, ↓bd1_s, ↓bnd_d, ↓iww_t, ↓iww_f, ↓iwl_t, ↓iwl_f, ↓ilw_t, ↓ilw_f, ↓eww_t, ↓eww_f, ↓ewl_t, ↓ewl_f, ↓ez_t, ↓ez_f, ↓il_t, ↓il_f, il_t, il_f, ez_t, ez_f, if_true, if_false, upS_h, upS_o, upS_i, Int.reduceAdd, Int.reduceSub, Int.reduceMul, Int.reduceNeg, wI_id, in_f]
    exact oM_id (oM_bad (-2) h)
