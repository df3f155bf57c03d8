/-! ===== gathering ===== -/
def cnt (P : Int → Prop) [DecidablePred P] : Nat → Int
  | 0 => 0
  | m + 1 => if P m then cnt P m + 1 else cnt P m
def arr (P : Int → Prop) [DecidablePred P] : Nat → Int → Int
  | 0, _ => 0
  | m + 1, i => if P m then (if i = cnt P m then (m : Int) else arr P m i) else arr P m i
theorem cnt_r {P : Int → Prop} [DecidablePred P] : ∀ m : Nat, 0 ≤ cnt P m ∧ cnt P m ≤ m := by
  intro m
  induction m with
  | zero => rw [cnt]; omega
  | succ m ih =>
    rw [cnt]
    by_cases c : P m
    · rw [if_pos c]; omega
    · rw [if_neg c]; omega
theorem cnt_z {P : Int → Prop} [DecidablePred P] : ∀ m : Nat, cnt P m = 0 → ∀ u : Nat, u < m → ¬ P u := by
  intro m
  induction m with
  | zero => intro _ u hu; omega
  | succ m ih =>
    intro h u hu
    have r := cnt_r (P := P) m
    rw [cnt] at h
    by_cases c : P m
    · rw [if_pos c] at h; omega
    · rw [if_neg c] at h
      by_cases c2 : u = m
      · rw [c2]; exact c
      · exact ih h u (by omega)
theorem cnt_n {P : Int → Prop} [DecidablePred P] : ∀ m : Nat, (∀ u : Nat, u < m → ¬ P u) → cnt P m = 0 := by
  intro m
  induction m with
  | zero => intro _; rfl
  | succ m ih =>
    intro h
    rw [cnt, if_neg (h m (by omega))]
    exact ih (fun u hu => h u (by omega))
theorem cnt_e {P Q : Int → Prop} [DecidablePred P] [DecidablePred Q] : ∀ m : Nat, (∀ u : Nat, u < m → (P u ↔ Q u)) → cnt P m = cnt Q m ∧ ∀ i, arr P m i = arr Q m i := by
  intro m
  induction m with
  | zero => intro _; exact ⟨rfl, fun _ => rfl⟩
  | succ m ih =>
    intro h
    obtain ⟨g1, g2⟩ := ih (fun u hu => h u (by omega))
    have e := h m (by omega)
    refine ⟨?_, fun i => ?_⟩
    · rw [cnt, cnt]
      by_cases c : P m
      · rw [if_pos c, if_pos (e.1 c), g1]
      · rw [if_neg c, if_neg (fun z => c (e.2 z)), g1]
    · rw [arr, arr]
      by_cases c : P m
      · rw [if_pos c, if_pos (e.1 c), g1, g2]
      · rw [if_neg c, if_neg (fun z => c (e.2 z)), g2]
theorem arr_r {P : Int → Prop} [DecidablePred P] : ∀ (m : Nat) (i : Int), 0 ≤ i → i < cnt P m → 0 ≤ arr P m i ∧ arr P m i < m ∧ P (arr P m i) := by
  intro m
  induction m with
  | zero => intro i h1 h2; rw [cnt] at h2; omega
  | succ m ih =>
    intro i h1 h2
    rw [cnt] at h2
    rw [arr]
    by_cases c : P m
    · rw [if_pos c] at h2 ⊢
      by_cases c2 : i = cnt P m
      · rw [if_pos c2]; exact ⟨by omega, by omega, c⟩
      · rw [if_neg c2]
        have := ih i h1 (by omega)
        exact ⟨this.1, by omega, this.2.2⟩
    · rw [if_neg c] at h2 ⊢
      have := ih i h1 h2
      exact ⟨this.1, by omega, this.2.2⟩
/-- a unit of the sound, not the absent one, that goes along at least j steps -/
abbrev PL (α : St) (a k s j u : Int) : Prop := ¬ u = a ∧ α 1 u = s ∧ j ≤ ag α u k
def bsG (α : St) (a k s : Int) : Nat → Int
  | 0 => -1
  | m + 1 => if bsG α a k s m < (if ¬ (m : Int) = a ∧ α 1 m = s then ag α m k else -1) then (if ¬ (m : Int) = a ∧ α 1 m = s then ag α m k else -1) else bsG α a k s m
def bst (α : St) (a k s : Int) : Int := bsG α a k s (α 0 0).toNat
theorem bsG_p {α : St} {a k s : Int} (hw : wT α) : ∀ m : Nat, (-1 ≤ bsG α a k s m ∧ bsG α a k s m ≤ dT α k) ∧ (∀ u : Nat, u < m → ¬ (u : Int) = a → α 1 u = s → ag α u k ≤ bsG α a k s m) ∧ (0 ≤ bsG α a k s m → ∃ u : Nat, u < m ∧ PL α a k s (bsG α a k s m) u) := by
  intro m
  have hd := dT_r (k := k) hw
  induction m with
  | zero => rw [bsG]; exact ⟨by omega, fun u hu => by omega, fun z => by omega⟩
  | succ m ih =>
    obtain ⟨g1, g2, g3⟩ := ih
    rw [bsG]
    by_cases c : ¬ (m : Int) = a ∧ α 1 m = s
    · rw [if_pos c]
      have r := ag_p (u := m) (k := k) hw
      by_cases c2 : bsG α a k s m < ag α m k
      · rw [if_pos c2]
        refine ⟨by omega, fun u hu h1 h2 => ?_, fun _ => ⟨m, by omega, c.1, c.2, by omega⟩⟩
        by_cases c3 : u = m
        · rw [c3]; omega
        · have := g2 u (by omega) h1 h2; omega
      · rw [if_neg c2]
        refine ⟨g1, fun u hu h1 h2 => ?_, fun z => ?_⟩
        · by_cases c3 : u = m
          · rw [c3]; omega
          · exact g2 u (by omega) h1 h2
        · obtain ⟨u, a1, a2⟩ := g3 z
          exact ⟨u, by omega, a2⟩
    · rw [if_neg c, if_neg (show ¬ bsG α a k s m < -1 by omega)]
      refine ⟨g1, fun u hu h1 h2 => ?_, fun z => ?_⟩
      · by_cases c3 : u = m
        · subst c3; exact absurd ⟨h1, h2⟩ c
        · exact g2 u (by omega) h1 h2
      · obtain ⟨u, a1, a2⟩ := g3 z
        exact ⟨u, by omega, a2⟩
theorem bst_p {α : St} {a k s : Int} (hw : wT α) : (-1 ≤ bst α a k s ∧ bst α a k s ≤ dT α k) ∧ (∀ u : Nat, u < (α 0 0).toNat → ¬ (u : Int) = a → α 1 u = s → ag α u k ≤ bst α a k s) ∧ (0 ≤ bst α a k s → ∃ u : Nat, u < (α 0 0).toNat ∧ PL α a k s (bst α a k s) u) := bsG_p hw _
/-- the number of units that are chosen at a level -/
def chN (α : St) (a k s j : Int) : Int := cnt (PL α a k s j) (α 0 0).toNat
def chU (α : St) (a k s j i : Int) : Int := arr (PL α a k s j) (α 0 0).toNat i
theorem chN_pos {α : St} {a k s j : Int} (hw : wT α) (hj : 0 ≤ j) : 0 < chN α a k s j ↔ j ≤ bst α a k s := by
  have r := cnt_r (P := PL α a k s j) (α 0 0).toNat
  obtain ⟨b1, b2, b3⟩ := bst_p (a := a) (k := k) (s := s) hw
  unfold chN
  constructor
  · intro h
    by_cases c : j ≤ bst α a k s
    · exact c
    · exfalso
      have := cnt_n (P := PL α a k s j) (α 0 0).toNat (fun u hu z => by have := b2 u hu z.1 z.2.1; omega)
      omega
  · intro h
    by_cases c : cnt (PL α a k s j) (α 0 0).toNat = 0
    · exfalso
      obtain ⟨u, u1, u2⟩ := b3 (by omega)
      exact cnt_z _ c u u1 ⟨u2.1, u2.2.1, by omega⟩
    · omega
/-! the component's leaves of units -/
def cL (σ α : St) : Prop := ∀ u, 0 ≤ u → u < α 0 0 → σ 36 u = lfU α u
theorem c_leaves_g {α : St} (kx : St → Option (Int × St)) (hw : WF α) : ∀ (m : Nat) (σ : St) (x : Int) (n : Nat), IC σ α → x + m = α 0 0 → 0 ≤ x → (∀ u, 0 ≤ u → u < x → σ 36 u = lfU α u) → m < n → ∃ τ, lp_X2_findLeaves_2 kx n σ x = kx τ ∧ cL τ α ∧ ∀ o, ¬ o = 36 → τ o = σ o := by
  intro m
  have w1 := hw.1.2.1
  induction m with
  | zero =>
    intro σ x n h h1 h2 h3 hn
    obtain ⟨n, rfl⟩ : ∃ k, n = k + 1 := ⟨n - 1, by omega⟩
    have hs := h.1.1
    rw [lp_X2_findLeaves_2]
    refine ⟨σ, by simp (disch := omega) only [↓rdA_t, ↓wrA_t, ↓ixA_t, ↓wrF_d, ↓bd2_s, ↓bd1_s, ↓bnd_d, ↓iww_t, ↓iww_f, ↓iwl_t, ↓iwl_f, ↓ilw_t, ↓ilw_f, ↓eww_t, ↓eww_f, ↓ewl_t, ↓ewl_f, ↓ez_t, ↓ez_f, ↓il_t, ↓il_f, il_t, il_f, ez_t, ez_f, if_true, if_false, upS_h, upS_o, upS_i, Int.reduceAdd, Int.reduceSub, Int.reduceMul, Int.reduceNeg, wI_id], fun u u1 u2 => h3 u u1 (by omega), fun _ _ => rfl⟩
  | succ m ih =>
    intro σ x n h h1 h2 h3 hn
    obtain ⟨n, rfl⟩ : ∃ k, n = k + 1 := ⟨n - 1, by omega⟩
    have hs := h.1.1
    have hI : IC (upS σ 36 x (lfU α x)) α := IC_scr (fun o ho i _ => upS_o (by omega)) h
    obtain ⟨τ, g1, g2, g3⟩ := ih (upS σ 36 x (lfU α x)) (x + 1) n hI (by omega) (by omega) (fun u u1 u2 => by
      by_cases c : u = x
      · subst c; exact upS_h ⟨rfl, rfl⟩
      · rw [upS_i c]; exact h3 u u1 (by omega)) (by omega)
    rw [lp_X2_findLeaves_2]
    refine ⟨τ, ?_, g2, fun o ho => (g3 o ho).trans (upS_of ho)⟩
    simp (disch := omega) only [↓rdA_t, ↓wrA_t, ↓ixA_t, ↓wrF_d, ↓bd2_s, ↓bd1_s, ↓bnd_d, ↓iww_t, ↓iww_f, ↓iwl_t, ↓iwl_f, ↓ilw_t, ↓ilw_f, ↓eww_t, ↓eww_f, ↓ewl_t, ↓ewl_f, ↓ez_t, ↓ez_f, ↓il_t, ↓il_f, il_t, il_f, ez_t, ez_f, if_true, if_false, upS_h, upS_o, upS_i, Int.reduceAdd, Int.reduceSub, Int.reduceMul, Int.reduceNeg, wI_id, c_lfU h hw h2 (show x < α 0 0 by omega)]
    exact g1
theorem c_leaves {σ α : St} (h : IC σ α) (hw : WF α) : ∃ τ, f_X2_findLeaves σ = some (0, τ) ∧ cL τ α ∧ ∀ o, ¬ o = 36 → τ o = σ o := by
  have w1 := hw.1.1
  have w2 := hw.1.2.1
  unfold f_X2_findLeaves
  exact c_leaves_g (fun σ4 => some (0, σ4)) hw (α 0 0).toNat σ 0 1000 h (by omega) (by omega) (fun u u1 u2 => by omega) (by omega)
/-! the component gathers -/
def cC (σ : St) (o : Int) (P : Int → Prop) [DecidablePred P] (m : Nat) : Prop := σ o 1 = cnt P m ∧ ∀ i, 0 ≤ i → i < cnt P m → σ (o + 1) i = arr P m i
theorem c_gather_g {α : St} {q a k s : Int} {j : Nat} (kx : St → Option (Int × St)) (hw : WF α) (hq : 0 ≤ q ∧ q < 8) (ha : -1 ≤ a ∧ a < 40) (hs0 : 0 ≤ s ∧ s ≤ 5) (hj : (j : Int) ≤ dT α k) : ∀ (m x : Nat) (σ : St) (n : Nat), IC σ α → cL σ α → (x : Int) + m = α 0 0 → cC σ (38 + 2 * q) (PL α a k s j) x → m < n → ∃ τ, lp_X2_gather_3 (38 + 2 * q) s (pT α k j) a kx n σ x = kx τ ∧ cC τ (38 + 2 * q) (PL α a k s j) (x + m) ∧ (∀ o, ¬ o = 38 + 2 * q → ¬ o = 38 + 2 * q + 1 → τ o = σ o) ∧ ∀ i, ¬ i = 1 → τ (38 + 2 * q) i = σ (38 + 2 * q) i := by
  intro m
  have w1 := hw.1.2.1
  induction m with
  | zero =>
    intro x σ n h hl h1 hc hn
    obtain ⟨n, rfl⟩ : ∃ k, n = k + 1 := ⟨n - 1, by omega⟩
    have hs := h.1.1
    rw [lp_X2_gather_3]
    exact ⟨σ, by simp (disch := omega) only [↓rdA_t, ↓wrA_t, ↓ixA_t, ↓wrF_d, ↓bd2_s, ↓bd1_s, ↓bnd_d, ↓iww_t, ↓iww_f, ↓iwl_t, ↓iwl_f, ↓ilw_t, ↓ilw_f, ↓eww_t, ↓eww_f, ↓ewl_t, ↓ewl_f, ↓ez_t, ↓ez_f, ↓il_t, ↓il_f, il_t, il_f, ez_t, ez_f, if_true, if_false, upS_h, upS_o, upS_i, Int.reduceAdd, Int.reduceSub, Int.reduceMul, Int.reduceNeg, wI_id], hc, fun _ _ _ => rfl, fun _ _ => rfl⟩
  | succ m ih =>
    intro x σ n h hl h1 hc hn
    obtain ⟨n, rfl⟩ : ∃ k, n = k + 1 := ⟨n - 1, by omega⟩
    have hs := h.1.1
    have e1 := (h.1.2.1 x (by omega) (by omega)).1
    have k1 := (hw.1.2.2 x (by omega) (by omega)).1
    have e2 := hl x (by omega) (by omega)
    have e3 := c_under (u := x) (k := k) (j := j) h.2.2.2.2 hw.2.2.2.2 hj
    have cr := cnt_r (P := PL α a k s j) x
    have hc1 := hc.1
    have skip : ¬ PL α a k s j x → ∃ τ, lp_X2_gather_3 (38 + 2 * q) s (pT α k j) a kx n σ ((x : Int) + 1) = kx τ ∧ cC τ (38 + 2 * q) (PL α a k s j) (x + (m + 1)) ∧ (∀ o, ¬ o = 38 + 2 * q → ¬ o = 38 + 2 * q + 1 → τ o = σ o) ∧ ∀ i, ¬ i = 1 → τ (38 + 2 * q) i = σ (38 + 2 * q) i := by
      intro hp
      have g := ih (x + 1) σ n h hl (by omega) ⟨by rw [cnt, if_neg hp]; exact hc.1, fun i i1 i2 => by rw [cnt, if_neg hp] at i2; rw [arr, if_neg hp]; exact hc.2 i i1 i2⟩ (by omega)
      rw [show x + 1 + m = x + (m + 1) by omega, show ((x + 1 : Nat) : Int) = (x : Int) + 1 by omega] at g
      exact g
    rw [lp_X2_gather_3]
    by_cases c1 : (x : Int) = a
    · obtain ⟨τ, g⟩ := skip (fun z => z.1 c1)
      refine ⟨τ, ?_, g.2⟩
      rw [← g.1]
      simp (disch := omega) only [↓rdA_t, ↓wrA_t, ↓ixA_t, ↓wrF_d, ↓bd2_s, ↓bd1_s, ↓bnd_d, ↓iww_t, ↓iww_f, ↓iwl_t, ↓iwl_f, ↓ilw_t, ↓ilw_f, ↓eww_t, ↓eww_f, ↓ewl_t, ↓ewl_f, ↓ez_t, ↓ez_f, ↓il_t, ↓il_f, il_t, il_f, ez_t, ez_f, if_true, if_false, upS_h, upS_o, upS_i, Int.reduceAdd, Int.reduceSub, Int.reduceMul, Int.reduceNeg, wI_id]
    · by_cases c2 : α 1 x = s
      · by_cases c3 : (j : Int) ≤ ag α x k
        · have hp : PL α a k s j x := ⟨c1, c2, c3⟩
          have hI : IC (upS (upS σ (38 + 2 * q + 1) (σ (38 + 2 * q) 1) x) (38 + 2 * q) 1 (σ (38 + 2 * q) 1 + 1)) α := IC_scr (fun o ho i _ => by simp (disch := omega) only [upS_h, upS_o, upS_i, Int.reduceAdd, Int.reduceSub, Int.reduceMul, Int.reduceNeg]) h
          have g := ih (x + 1) (upS (upS σ (38 + 2 * q + 1) (σ (38 + 2 * q) 1) x) (38 + 2 * q) 1 (σ (38 + 2 * q) 1 + 1)) n hI (fun u u1 u2 => by simp (disch := omega) only [upS_h, upS_o, upS_i, Int.reduceAdd, Int.reduceSub, Int.reduceMul, Int.reduceNeg]; exact hl u u1 u2) (by omega) ⟨by rw [cnt, if_pos hp, upS_h ⟨rfl, rfl⟩, hc.1], fun i i1 i2 => by
            rw [cnt, if_pos hp] at i2
            rw [arr, if_pos hp, upS_o (by omega)]
            by_cases c4 : i = cnt (PL α a k s j) x
            · rw [if_pos c4, upS_h ⟨rfl, by omega⟩]
            · rw [if_neg c4, upS_i (by omega)]; exact hc.2 i i1 (by omega)⟩ (by omega)
          obtain ⟨τ, g1, g2, g3, g4⟩ := g
          rw [show x + 1 + m = x + (m + 1) by omega] at g2
          rw [show ((x + 1 : Nat) : Int) = (x : Int) + 1 by omega] at g1
          refine ⟨τ, ?_, g2, fun o o1 o2 => by rw [g3 o o1 o2, upS_of o1, upS_of o2], fun i i1 => by rw [g4 i i1, upS_i i1, upS_o (by omega)]⟩
          rw [← g1]
          unfold f_X1_add
          rw [if_pos c3] at e3
          simp (disch := omega) only [↓rdA_t, ↓wrA_t, ↓ixA_t, ↓wrF_d, ↓bd2_s, ↓bd1_s, ↓bnd_d, ↓iww_t, ↓iww_f, ↓iwl_t, ↓iwl_f, ↓ilw_t, ↓ilw_f, ↓eww_t, ↓eww_f, ↓ewl_t, ↓ewl_f, ↓ez_t, ↓ez_f, ↓il_t, ↓il_f, il_t, il_f, ez_t, ez_f, if_true, if_false, upS_h, upS_o, upS_i, Int.reduceAdd, Int.reduceSub, Int.reduceMul, Int.reduceNeg, wI_id, e1, e2, e3]
        · obtain ⟨τ, g⟩ := skip (fun z => c3 z.2.2)
          refine ⟨τ, ?_, g.2⟩
          rw [← g.1]
          rw [if_neg c3] at e3
          simp (disch := omega) only [↓rdA_t, ↓wrA_t, ↓ixA_t, ↓wrF_d, ↓bd2_s, ↓bd1_s, ↓bnd_d, ↓iww_t, ↓iww_f, ↓iwl_t, ↓iwl_f, ↓ilw_t, ↓ilw_f, ↓eww_t, ↓eww_f, ↓ewl_t, ↓ewl_f, ↓ez_t, ↓ez_f, ↓il_t, ↓il_f, il_t, il_f, ez_t, ez_f, if_true, if_false, upS_h, upS_o, upS_i, Int.reduceAdd, Int.reduceSub, Int.reduceMul, Int.reduceNeg, wI_id, e1, e2, e3]
      · obtain ⟨τ, g⟩ := skip (fun z => c2 z.2.1)
        refine ⟨τ, ?_, g.2⟩
        rw [← g.1]
        simp (disch := omega) only [↓rdA_t, ↓wrA_t, ↓ixA_t, ↓wrF_d, ↓bd2_s, ↓bd1_s, ↓bnd_d, ↓iww_t, ↓iww_f, ↓iwl_t, ↓iwl_f, ↓ilw_t, ↓ilw_f, ↓eww_t, ↓eww_f, ↓ewl_t, ↓ewl_f, ↓ez_t, ↓ez_f, ↓il_t, ↓il_f, il_t, il_f, ez_t, ez_f, if_true, if_false, upS_h, upS_o, upS_i, Int.reduceAdd, Int.reduceSub, Int.reduceMul, Int.reduceNeg, wI_id, e1]
theorem c_gather {σ α : St} {q a k s : Int} {j : Nat} (h : IC σ α) (hl : cL σ α) (hw : WF α) (hq : 0 ≤ q ∧ q < 8) (ha : -1 ≤ a ∧ a < 40) (hs0 : 0 ≤ s ∧ s ≤ 5) (hj : (j : Int) ≤ dT α k) (h0 : σ (38 + 2 * q) 1 = 0) : ∃ τ, f_X2_gather σ (38 + 2 * q) s (pT α k j) a = some (0, τ) ∧ cC τ (38 + 2 * q) (PL α a k s j) (α 0 0).toNat ∧ (∀ o, ¬ o = 38 + 2 * q → ¬ o = 38 + 2 * q + 1 → τ o = σ o) ∧ ∀ i, ¬ i = 1 → τ (38 + 2 * q) i = σ (38 + 2 * q) i := by
  have w1 := hw.1.1
  have w2 := hw.1.2.1
  unfold f_X2_gather
  have g := c_gather_g (α := α) (q := q) (a := a) (k := k) (s := s) (j := j) (fun σ11 => some (0, σ11)) hw hq ha hs0 hj (α 0 0).toNat 0 σ 1000 h hl (by omega) ⟨h0, fun i i1 i2 => by rw [cnt] at i2; omega⟩ (by omega)
  rw [Nat.zero_add] at g
  exact g
theorem c_climb_g {α : St} {q a k s : Int} (kx : St → Option (Int × St)) (hw : WF α) (hq : 0 ≤ q ∧ q < 8) (ha : -1 ≤ a ∧ a < 40) (hs0 : 0 ≤ s ∧ s ≤ 5) : ∀ (j : Nat) (σ : St) (x : Int) (n : Nat), IC σ α → cL σ α → x + j = dT α k → 0 ≤ x → bst α a k s ≤ j → σ (38 + 2 * q) 1 = 0 → j < n → ∃ τ, lp_X2_climb_6 (38 + 2 * q) s a kx n σ (pT α k j) x = some (0, τ) ∧ (0 ≤ bst α a k s → τ (38 + 2 * q) 2 = σ (38 + 2 * q) 2 + (j - bst α a k s) ∧ cC τ (38 + 2 * q) (PL α a k s (bst α a k s)) (α 0 0).toNat) ∧ (bst α a k s < 0 → τ (38 + 2 * q) 2 = σ (38 + 2 * q) 2 + j ∧ τ (38 + 2 * q) 1 = 0) ∧ τ (38 + 2 * q) 3 = σ (38 + 2 * q) 3 ∧ (∀ o, ¬ o = 38 + 2 * q → ¬ o = 38 + 2 * q + 1 → τ o = σ o) := by
  intro j
  have hd := dT_r (k := k) hw.2.2.2.2
  have w1 := hw.1.1
  have w2 := hw.1.2.1
  have b0 := (bst_p (a := a) (k := k) (s := s) hw.2.2.2.2).1
  have nodeIn : ∀ j : Nat, 0 ≤ pT α k j ∧ pT α k j < α 0 7 := fun j => by
    have := wk_in (l := tL α k) (r := tR α k) (p := α 8 k) (d := α 9 k) hw.2.2.2.2 j
    exact ⟨this.1, this.2.1⟩
  have scr : ∀ {σ τ : St}, (∀ o, ¬ o = 38 + 2 * q → ¬ o = 38 + 2 * q + 1 → τ o = σ o) → IC σ α → IC τ α := fun hf h => IC_scr (fun o ho i _ => by rw [hf o (by omega) (by omega)]) h
  have one : ∀ (j : Nat) (σ : St), IC σ α → cL σ α → (j : Int) ≤ dT α k → σ (38 + 2 * q) 1 = 0 → ∃ τ, f_X2_gather σ (38 + 2 * q) s (pT α k j) a = some (0, τ) ∧ cC τ (38 + 2 * q) (PL α a k s j) (α 0 0).toNat ∧ IC τ α ∧ (0 ≤ τ (38 + 2 * q) 1 ∧ τ (38 + 2 * q) 1 ≤ 40) ∧ (0 < τ (38 + 2 * q) 1 ↔ (j : Int) ≤ bst α a k s) ∧ (∀ o, ¬ o = 38 + 2 * q → ¬ o = 38 + 2 * q + 1 → τ o = σ o) ∧ ∀ i, ¬ i = 1 → τ (38 + 2 * q) i = σ (38 + 2 * q) i := by
    intro j σ h hl hj h0
    obtain ⟨τ, g1, g2, g3, g4⟩ := c_gather h hl hw hq ha hs0 hj h0
    have r := cnt_r (P := PL α a k s j) (α 0 0).toNat
    have p := chN_pos (a := a) (k := k) (s := s) (j := (j : Int)) hw.2.2.2.2 (by omega)
    unfold chN at p
    exact ⟨τ, g1, g2, scr g3 h, by rw [g2.1]; omega, by rw [g2.1]; exact p, g3, g4⟩
  induction j with
  | zero =>
    intro σ x n h hl h1 h2 h3 h4 hn
    obtain ⟨n, rfl⟩ : ∃ k, n = k + 1 := ⟨n - 1, by omega⟩
    obtain ⟨τ, g1, g2, gI, gr, gp, g3, g4⟩ := one 0 σ h hl (by omega) h4
    have ab := c_above gI.2.2.2.2 hw.2.2.2.2 (nodeIn 0).1 (nodeIn 0).2
    have e0 : α 16 (pT α k 0) = -1 := hw.2.2.2.2.2.2.2.1
    rw [lp_X2_climb_6]
    refine ⟨τ, ?_, fun hb => ?_, fun hb => ?_, g4 3 (by omega), g3⟩
    · rw [e0] at ab
      by_cases c : 0 < τ (38 + 2 * q) 1
      · simp (disch := omega) only [↓rdA_t, ↓wrA_t, ↓ixA_t, ↓wrF_d, ↓bd2_s, ↓bd1_s, ↓bnd_d, ↓iww_t, ↓iww_f, ↓iwl_t, ↓iwl_f, ↓ilw_t, ↓ilw_f, ↓eww_t, ↓eww_f, ↓ewl_t, ↓ewl_f, ↓ez_t, ↓ez_f, ↓il_t, ↓il_f, il_t, il_f, ez_t, ez_f, if_true, if_false, upS_h, upS_o, upS_i, Int.reduceAdd, Int.reduceSub, Int.reduceMul, Int.reduceNeg, wI_id, g1, ab]
      · simp (disch := omega) only [↓rdA_t, ↓wrA_t, ↓ixA_t, ↓wrF_d, ↓bd2_s, ↓bd1_s, ↓bnd_d, ↓iww_t, ↓iww_f, ↓iwl_t, ↓iwl_f, ↓ilw_t, ↓ilw_f, ↓eww_t, ↓eww_f, ↓ewl_t, ↓ewl_f, ↓ez_t, ↓ez_f, ↓il_t, ↓il_f, il_t, il_f, ez_t, ez_f, if_true, if_false, upS_h, upS_o, upS_i, Int.reduceAdd, Int.reduceSub, Int.reduceMul, Int.reduceNeg, wI_id, g1, ab]
    · have : bst α a k s = ((0 : Nat) : Int) := by omega
      rw [this]
      exact ⟨by rw [g4 2 (by omega)]; omega, g2⟩
    · exact ⟨by rw [g4 2 (by omega)]; omega, by omega⟩
  | succ j ih =>
    intro σ x n h hl h1 h2 h3 h4 hn
    obtain ⟨n, rfl⟩ : ∃ k, n = k + 1 := ⟨n - 1, by omega⟩
    obtain ⟨τ, g1, g2, gI, gr, gp, g3, g4⟩ := one (j + 1) σ h hl (by omega) h4
    have ab := c_above gI.2.2.2.2 hw.2.2.2.2 (nodeIn (j + 1)).1 (nodeIn (j + 1)).2
    have e0 : α 16 (pT α k (j + 1)) = pT α k j := wk_up hw.2.2.2.2 (by unfold dT lfT at h1; omega)
    rw [e0] at ab
    have nj := nodeIn j
    have nw := hw.2.2.2.2.1
    rw [lp_X2_climb_6]
    by_cases c : ((j + 1 : Nat) : Int) ≤ bst α a k s
    · have c2 := gp.2 c
      refine ⟨τ, ?_, fun hb => ?_, fun hb => ?_, g4 3 (by omega), g3⟩
      · simp (disch := omega) only [↓rdA_t, ↓wrA_t, ↓ixA_t, ↓wrF_d, ↓bd2_s, ↓bd1_s, ↓bnd_d, ↓iww_t, ↓iww_f, ↓iwl_t, ↓iwl_f, ↓ilw_t, ↓ilw_f, ↓eww_t, ↓eww_f, ↓ewl_t, ↓ewl_f, ↓ez_t, ↓ez_f, ↓il_t, ↓il_f, il_t, il_f, ez_t, ez_f, if_true, if_false, upS_h, upS_o, upS_i, Int.reduceAdd, Int.reduceSub, Int.reduceMul, Int.reduceNeg, wI_id, g1, ab]
      · have : bst α a k s = ((j + 1 : Nat) : Int) := by omega
        rw [this]
        exact ⟨by rw [g4 2 (by omega)]; omega, g2⟩
      · omega
    · have c2 : ¬ 0 < τ (38 + 2 * q) 1 := fun z => c (gp.1 z)
      have e2 := g4 2 (by omega)
      have hI2 : IC (upS τ (38 + 2 * q) 2 (τ (38 + 2 * q) 2 + 1)) α := IC_scr (fun o ho i _ => by simp (disch := omega) only [upS_h, upS_o, upS_i, Int.reduceAdd, Int.reduceSub, Int.reduceMul, Int.reduceNeg]) gI
      obtain ⟨ρ, f1, f2, f3, f4, f5⟩ := ih (upS τ (38 + 2 * q) 2 (τ (38 + 2 * q) 2 + 1)) (x + 1) n hI2 (fun u u1 u2 => by rw [upS_o (by omega), g3 36 (by omega) (by omega)]; exact hl u u1 u2) (by omega) (by omega) (by omega) (by rw [upS_i (by omega)]; omega) (by omega)
      rw [upS_h ⟨rfl, rfl⟩, e2] at f2 f3
      refine ⟨ρ, ?_, fun hb => ⟨by have := (f2 hb).1; omega, (f2 hb).2⟩, fun hb => ⟨by have := (f3 hb).1; omega, (f3 hb).2⟩, by rw [f4, upS_i (by omega), g4 3 (by omega)], fun o o1 o2 => by rw [f5 o o1 o2, upS_of o1, g3 o o1 o2]⟩
      rw [← f1]
      simp (disch := omega) only [↓rdA_t, ↓wrA_t, ↓ixA_t, ↓wrF_d, ↓bd2_s, ↓bd1_s, ↓bnd_d, ↓iww_t, ↓iww_f, ↓iwl_t, ↓iwl_f, ↓ilw_t, ↓ilw_f, ↓eww_t, ↓eww_f, ↓ewl_t, ↓ewl_f, ↓ez_t, ↓ez_f, ↓il_t, ↓il_f, il_t, il_f, ez_t, ez_f, if_true, if_false, upS_h, upS_o, upS_i, Int.reduceAdd, Int.reduceSub, Int.reduceMul, Int.reduceNeg, wI_id, g1, ab]
